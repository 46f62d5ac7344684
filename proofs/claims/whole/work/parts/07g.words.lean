/-! ALL WORDS LIE IN THE TABLES -/
set_option maxRecDepth 100000 in
theorem la_wsX5 : ∀ w ∈ wsX50, w ∈ lw_tbl := by decide +kernel
set_option maxRecDepth 100000 in
theorem la_wsX7 : ∀ w ∈ wsX70, w ∈ lw_tbl := by decide +kernel
set_option maxRecDepth 100000 in
theorem la_wsX4 : ∀ w ∈ wsX40, w ∈ lw_tbl := by decide +kernel
set_option maxRecDepth 100000 in
theorem la_wsX2 : ∀ w ∈ wsX20, w ∈ lw_tbl := by decide +kernel
set_option maxRecDepth 100000 in
theorem la_wsX3 : ∀ w ∈ wsX30, w ∈ lw_tbl := by decide +kernel
set_option maxRecDepth 100000 in
theorem la_wsX0 : ∀ w ∈ wsX00, w ∈ lw_tbl := by decide +kernel
set_option maxRecDepth 100000 in
theorem la_wsX1 : ∀ w ∈ wsX10, w ∈ lw_tbl := by decide +kernel
set_option maxRecDepth 100000 in
theorem la_wsX6 : ∀ w ∈ wsX60, w ∈ lw_tbl := by decide +kernel
set_option maxRecDepth 100000 in
theorem la_we0 : ∀ w ∈ (vx_atS RX5 35 "java/lang/IllegalArgumentException" ["java/lang/RuntimeException", "java/lang/Exception"]).filter goodWord, w ∈ lw_tbl := by decide +kernel
set_option maxRecDepth 100000 in
theorem la_we1 : ∀ w ∈ (vx_atS RX5 48 "java/lang/IllegalStateException" ["java/lang/RuntimeException", "java/lang/Exception"]).filter goodWord, w ∈ lw_tbl := by decide +kernel
set_option maxRecDepth 100000 in
theorem la_we2 : ∀ w ∈ (vx_atS RX5 150 "java/lang/IndexOutOfBoundsException" ["java/lang/RuntimeException", "java/lang/Exception"]).filter goodWord, w ∈ lw_tbl := by decide +kernel
set_option maxRecDepth 100000 in
theorem la_wN : ∀ w ∈ bd_N, w ∈ lw_tbl := by decide +kernel
set_option maxRecDepth 100000 in
theorem la_wNM : ∀ w ∈ bd_NM, w ∈ lw_tbl := by decide +kernel
set_option maxRecDepth 100000 in
theorem la_wBX : ∀ w ∈ bd_BX, w ∈ lw_tbl := by decide +kernel
set_option maxRecDepth 100000 in
theorem la_wAO : ∀ w ∈ [Cond.arrayOver (.object RX3), Cond.arrayOver (.object RX0), Cond.arrayOver (.object RX1)], w ∈ lw_tbl := by decide +kernel
set_option maxRecDepth 100000 in
theorem la_wS : ∀ w ∈ [Cond.laysStatic Bundle.tN "UNASSIGNED_STACK" Bundle.steD, Cond.laysStatic Bundle.tN "SUPPRESSED_SENTINEL" Bundle.listD, Cond.initialized Bundle.tN], w ∈ lw_tbl := by decide +kernel
set_option maxRecDepth 100000 in
theorem la_wR : ∀ q ∈ bd_strs, Cond.stringRef RX5 q.1 q.2 ∈ lw_tbl := by decide +kernel
theorem la_w0 : ∀ w ∈ wsL_law0, w ∈ lw_tbl := by
  unfold wsL_law0
  exact List.forall_mem_append.mpr ⟨List.forall_mem_append.mpr ⟨List.forall_mem_append.mpr ⟨List.forall_mem_append.mpr ⟨List.forall_mem_append.mpr ⟨List.forall_mem_append.mpr ⟨List.forall_mem_append.mpr ⟨List.forall_mem_append.mpr ⟨List.forall_mem_append.mpr ⟨List.forall_mem_append.mpr ⟨la_w1, List.forall_mem_append.mpr ⟨la_w2, List.forall_mem_append.mpr ⟨la_w3, List.forall_mem_append.mpr ⟨la_w4, List.forall_mem_append.mpr ⟨la_w5, List.forall_mem_append.mpr ⟨la_w6, List.forall_mem_append.mpr ⟨la_w7, List.forall_mem_append.mpr ⟨la_w8, List.forall_mem_append.mpr ⟨la_w9, List.forall_mem_append.mpr ⟨la_w10, List.forall_mem_append.mpr ⟨la_w11, List.forall_mem_append.mpr ⟨la_w12, List.forall_mem_append.mpr ⟨la_w13, List.forall_mem_append.mpr ⟨la_w14, List.forall_mem_append.mpr ⟨la_w15, List.forall_mem_append.mpr ⟨la_w16, List.forall_mem_append.mpr ⟨la_w17, List.forall_mem_append.mpr ⟨la_w18, List.forall_mem_append.mpr ⟨la_w19, List.forall_mem_append.mpr ⟨la_w20, List.forall_mem_append.mpr ⟨la_w21, List.forall_mem_append.mpr ⟨la_w22, List.forall_mem_append.mpr ⟨la_w23, List.forall_mem_append.mpr ⟨la_w24, List.forall_mem_append.mpr ⟨la_w25, List.forall_mem_append.mpr ⟨la_w26, List.forall_mem_append.mpr ⟨la_w27, List.forall_mem_append.mpr ⟨la_w28, List.forall_mem_append.mpr ⟨la_w29, List.forall_mem_append.mpr ⟨la_w30, List.forall_mem_append.mpr ⟨la_w31, la_w32⟩⟩⟩⟩⟩⟩⟩⟩⟩⟩⟩⟩⟩⟩⟩⟩⟩⟩⟩⟩⟩⟩⟩⟩⟩⟩⟩⟩⟩⟩⟩, la_wsX5⟩, la_wsX7⟩, la_wsX2⟩, la_wsX4⟩, la_wsX3⟩, la_wsX0⟩, la_wsX1⟩, la_wsX6⟩, fun _ h => absurd h List.not_mem_nil⟩
theorem la_wsL : ∀ w ∈ wsL_law, w ∈ lw_tbl := by
  unfold wsL_law
  exact List.forall_mem_append.mpr ⟨List.forall_mem_append.mpr ⟨List.forall_mem_append.mpr ⟨la_w0, la_we0⟩, la_we1⟩, la_we2⟩
