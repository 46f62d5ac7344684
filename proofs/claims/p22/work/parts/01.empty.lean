/-! THE CLAIM AS IT IS PRINTED SPEAKS OF NOTHING: its head says that the law's own method has no table of handlers, and the law's class file has one (the law catches what seat throws). So no launch has the lists that the claim asks for, the witness can't be, and both halves of the claim hold of no start at all. This is no proof of the property. -/
theorem em_code : classFile.hasCode x code maxLocals ret = false := by decide +kernel
theorem em_lists {l : Launch} (h : Lists l classFile x code maxLocals ret tables_1 room_1) : False := by
  have h1 := h.2.2.1.1 (x, code, maxLocals, ret) (List.mem_append_left _ (List.mem_append_left _ List.mem_cons_self))
  have h2 : l.file? x.cls = some classFile := h.2.1
  have h3 : ((l.file? x.cls).any fun f => f.hasCode x code maxLocals ret) = true := h1
  rw [h2, Option.any_some, em_code] at h3
  exact Bool.false_ne_true h3
theorem em_nolists : ¬ ListsClaimed_1 := em_lists
theorem em_nowitness : ¬ WitnessClaimed_1 := fun ⟨_, _, _, _, _, _, h⟩ => em_lists h.1
theorem i_vc : Claimed_1_1 ∧ Claimed_1_2 := ⟨fun _ _ hL _ => (em_lists hL).elim, fun _ _ hL _ => (em_lists hL).elim⟩
