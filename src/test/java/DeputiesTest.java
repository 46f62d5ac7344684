/** "Terms", step 1 of a contest: each limit of who may sit in as a deputy, and which one does. */
final class DeputiesTest {
    private static final Check check = new Check();

    public static void main(String[] args) {
        aDeputyOnceAtMostBefore();
        aDeputyAnewInEachContest();
        sittingOnTheOwnSeatIsNoTimeAsADeputy();
        aTimeInABandThatIsOutCounts();
        atMostOneMoreSkill();
        theSkillOfTheAbsentMemberForThisInstrument();
        atMostFiveWithoutAMember();
        noSkillIsEnough();
        oneWhoIsAbsentIsNoDeputy();
        oneWhoSitsInTheBandIsNoDeputy();
        aMemberOfAnotherBandMayBeADeputy();
        theGreatestSkillAheadOfRestedLips();
        theLeastTiredOfSeveral();
        theSmallestNumberOfThese();
        behindAllMembersInAscendingOrder();
        otherwiseTheSeatIsEmpty();
        theSeatsBehindAnEmptyOne();
        theMemberStaysAMember();
        check.end();
    }

    /** As many bands of one cornet each. */
    private static void foundSolos(BandDay day, int bands) {
        for (int i = 0; i < bands; i++) {
            day.found(1);
        }
    }

    private static void aDeputyOnceAtMostBefore() {
        BandDay day = Days.players(5);
        foundSolos(day, 4);
        day.contest();
        check.same("a deputy for the first time", 0, day.chair(0, 0, 2));
        check.same("a deputy once before", 0, day.chair(1, 0, 2));
        check.same("a deputy twice before", -1, day.chair(2, 0, 2));
        check.same("also later on", -1, day.chair(3, 0, 2));
        check.same("as a deputy in all", 2, day.player(0, 9));
    }

    private static void aDeputyAnewInEachContest() {
        BandDay day = Days.players(5);
        foundSolos(day, 2);
        for (int contest = 1; contest <= 5; contest++) {
            day.contest();
            check.same("as a deputy, twice a contest", 2 * contest, day.player(0, 9));
            check.same("in a band, twice a contest", 2 * contest, day.player(0, 8));
        }
    }

    private static void sittingOnTheOwnSeatIsNoTimeAsADeputy() {
        BandDay day = Days.players(5);
        foundSolos(day, 4);
        day.seat(0, 0, 0);
        day.contest();
        check.same("sits on the own seat", 0, day.chair(0, 0, 2));
        check.same("first time as a deputy", 0, day.chair(1, 0, 2));
        check.same("second time as a deputy", 0, day.chair(2, 0, 2));
        check.same("no third time", -1, day.chair(3, 0, 2));
        check.same("sat in all", 3, day.player(0, 8));
        check.same("as a deputy in all", 2, day.player(0, 9));

        BandDay behind = Days.players(5);
        foundSolos(behind, 3);
        behind.seat(2, 0, 0);
        behind.contest();
        check.same("a deputy twice before sits on the own seat", 0, behind.chair(2, 0, 2));
    }

    private static void aTimeInABandThatIsOutCounts() {
        BandDay day = Days.players(5, 5, 5, 5);
        day.found(1111);
        day.found(1111);
        foundSolos(day, 1);
        day.contest();
        check.same("the first band is out", 1, day.band(0, 8));
        check.same("the second band is out", 1, day.band(1, 8));
        check.same("nobody is left", -1, day.chair(2, 0, 2));
    }

    private static void atMostOneMoreSkill() {
        for (int skill = 0; skill <= 9; skill++) {
            for (int other = 0; other <= 9; other++) {
                BandDay day = Days.bandOf(1, skill);
                day.addPlayer(other, 0, 0, 0);
                day.absent(0, 1);
                day.contest();
                check.same("for a member of skill " + skill + " one of skill " + other,
                        other <= skill + 1 ? 1 : -1, day.chair(0, 0, 2));
            }
        }
    }

    private static void theSkillOfTheAbsentMemberForThisInstrument() {
        // The absent member is good at all but the seat's instrument, the others at that alone.
        int[] instruments = {1, 2, 3, 4};
        for (int seat : instruments) {
            BandDay day = new BandDay();
            day.addPlayer(seat == 1 ? 2 : 9, seat == 2 ? 2 : 9, seat == 3 ? 2 : 9, seat == 4 ? 2 : 9);
            for (int skill = 4; skill >= 3; skill--) {
                day.addPlayer(seat == 1 ? skill : 0, seat == 2 ? skill : 0, seat == 3 ? skill : 0,
                        seat == 4 ? skill : 0);
            }
            day.found(seat);
            day.seat(0, 0, 0);
            day.absent(0, 1);
            day.contest();
            check.same("one of skill 3 for a member of skill 2, not one of 4", 2, day.chair(0, 0, 2));
        }
    }

    private static void atMostFiveWithoutAMember() {
        for (int skill = 0; skill <= 9; skill++) {
            BandDay day = Days.players(skill);
            foundSolos(day, 1);
            day.contest();
            check.same("no member, one of skill " + skill, skill <= 5 ? 0 : -1, day.chair(0, 0, 2));
        }
        BandDay weak = Days.bandOf(1, 0);
        weak.addPlayer(5, 5, 5, 5);
        weak.absent(0, 1);
        weak.contest();
        check.same("5 is not for a seat with a member", -1, weak.chair(0, 0, 2));
    }

    private static void noSkillIsEnough() {
        BandDay day = Days.players(0);
        foundSolos(day, 1);
        day.contest();
        check.same("a deputy of skill 0", 0, day.chair(0, 0, 2));
        BandDay absent = Days.bandOf(1, 9);
        absent.addPlayer(0, 9, 9, 9);
        absent.absent(0, 1);
        absent.contest();
        check.same("a deputy of skill 0 for one of 9", 1, absent.chair(0, 0, 2));
    }

    private static void oneWhoIsAbsentIsNoDeputy() {
        BandDay day = Days.players(5);
        foundSolos(day, 1);
        day.absent(0, 1);
        day.contest();
        check.same("absent from 1", -1, day.chair(0, 0, 2));
        day.contest();
        check.same("absent from 0", 0, day.chair(0, 0, 2));
        BandDay self = Days.bandOf(1, 5);
        self.absent(0, 20);
        self.contest();
        check.same("not for oneself", -1, self.chair(0, 0, 2));
        BandDay bands = Days.players(5);
        foundSolos(bands, 6);
        bands.absent(0, 1);
        bands.contest();
        check.same("absent from the whole contest", 6, bands.count(6));
    }

    private static void oneWhoSitsInTheBandIsNoDeputy() {
        BandDay day = Days.bandOf(11, 5);
        day.contest();
        check.same("a member who sits", -1, day.chair(0, 1, 2));
        BandDay deputy = Days.players(5);
        deputy.found(11);
        deputy.contest();
        check.same("a deputy who sits", -1, deputy.chair(0, 1, 2));
        BandDay last = Days.players(5);
        last.found(11);
        last.seat(0, 1, 0);
        last.contest();
        check.same("a member who sits on a later seat", -1, last.chair(0, 0, 2));
    }

    private static void aMemberOfAnotherBandMayBeADeputy() {
        BandDay day = Days.players(5, 3);
        foundSolos(day, 2);
        day.seat(1, 0, 0);
        day.contest();
        check.same("ahead of the own band", 0, day.chair(0, 0, 2));
        check.same("who sits on the own seat, too", 0, day.chair(1, 0, 2));
        check.same("still a member there", 1, day.player(0, 6));
        // Now the band 1 comes first; the lips of its member are 5 + 15 tired.
        day.contest();
        check.same("behind the own band, with the greatest skill", 0, day.chair(0, 0, 2));
    }

    private static void theGreatestSkillAheadOfRestedLips() {
        BandDay day = Days.players(3, 5, 4, 6);
        foundSolos(day, 2);
        day.seat(1, 0, 1);
        Days.rehearsals(day, 1, 20);
        day.seat(1, 0, -1);
        day.contest();
        check.same("100 tired", 1, day.chair(0, 0, 2));
        check.same("also for the second band", 1, day.chair(1, 0, 2));
    }

    private static void theLeastTiredOfSeveral() {
        // The lips are 10, 5 and 5 tired.
        BandDay day = Days.players(5, 5, 5);
        day.found(1);
        for (int player = 0; player < 3; player++) {
            day.seat(0, 0, player);
            Days.rehearsals(day, 0, player == 0 ? 2 : 1);
            day.seat(0, 0, -1);
        }
        day.contest();
        check.same("5 less tired, the smaller number of two", 1, day.chair(0, 0, 2));
    }

    private static void theSmallestNumberOfThese() {
        BandDay day = Days.players(new int[24]);
        day.found(11111111);
        day.contest();
        for (int seat = 0; seat < 8; seat++) {
            check.same("on seat " + seat, seat, day.chair(0, seat, 2));
        }
        BandDay tired = Days.players(5, 5);
        foundSolos(tired, 1);
        tired.seat(0, 0, 0);
        tired.rehearse(0);
        tired.seat(0, 0, -1);
        tired.seat(0, 0, 1);
        tired.rehearse(0);
        tired.seat(0, 0, -1);
        tired.contest();
        check.same("as tired, the smaller number", 0, tired.chair(0, 0, 2));
    }

    private static void behindAllMembersInAscendingOrder() {
        // The members sit on the seats 1 and 3; of the deputies of 5 and 4 the better one comes to seat 0.
        BandDay day = Days.players(4, 5, 2, 3);
        day.found(1111);
        day.seat(0, 1, 2);
        day.seat(0, 3, 3);
        day.contest();
        int[] due = {1, 2, 0, 3};
        for (int seat = 0; seat < 4; seat++) {
            check.same("on seat " + seat, due[seat], day.chair(0, seat, 2));
        }
        // A good member of the last seat is no deputy for the first one, whatever the lips are like.
        BandDay last = Days.players(5, 0);
        last.found(11);
        last.seat(0, 1, 0);
        Days.rehearsals(last, 0, 20);
        last.contest();
        check.same("the first seat", 1, last.chair(0, 0, 2));
        check.same("the last seat", 0, last.chair(0, 1, 2));
    }

    private static void otherwiseTheSeatIsEmpty() {
        BandDay day = Days.players(6, 7, 8, 9);
        day.found(1234);
        day.contest();
        check.same("no deputy for any seat", 4, day.band(0, 6));
        check.same("no deputies", 0, day.band(0, 5));
        for (int seat = 0; seat < 4; seat++) {
            check.same("nobody on seat " + seat, -1, day.chair(0, seat, 2));
        }
        // A seat that was taken in the contest before is empty in this one.
        day.seat(0, 2, 3);
        day.contest();
        check.same("taken", 3, day.chair(0, 2, 2));
        day.absent(3, 1);
        day.seat(0, 1, 0);
        day.seat(0, 3, 1);
        day.seat(0, 0, 2);
        day.contest();
        check.same("empty behind it", -1, day.chair(0, 2, 2));
        check.same("one empty seat", 1, day.band(0, 6));
    }

    private static void theSeatsBehindAnEmptyOne() {
        BandDay day = new BandDay();
        day.addPlayer(9, 9, 9, 9);
        day.addPlayer(6, 5, 6, 6);
        day.found(124);
        day.seat(0, 2, 0);
        day.contest();
        int[] due = {-1, 1, 0};
        for (int seat = 0; seat < 3; seat++) {
            check.same("on seat " + seat, due[seat], day.chair(0, seat, 2));
        }
        check.same("the deputy sat once", 1, day.player(1, 9));
        check.same("the member sat once", 1, day.player(0, 8));
        check.same("the deputy is tired", 15, day.player(1, 4));
    }

    private static void theMemberStaysAMember() {
        BandDay day = Days.bandOf(1, 5);
        day.addPlayer(5, 5, 5, 5);
        day.absent(0, 1);
        day.contest();
        check.same("the member", 0, day.chair(0, 0, 1));
        check.same("who sat there", 1, day.chair(0, 0, 2));
        check.same("a deputy is no member", -1, day.player(1, 6));
        check.same("nor on a seat", -1, day.player(1, 7));
        check.same("members of the band", 1, day.band(0, 1));
        day.contest();
        check.same("the member sits again", 0, day.chair(0, 0, 2));
        check.same("once on the own seat", 1, day.player(0, 8));
    }
}
