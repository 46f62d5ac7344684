/** "Terms": the least and the greatest of lips, spirit, hard, weights and skills, and what they are at first. */
final class NumbersTest {
    private static final Check check = new Check();

    public static void main(String[] args) {
        atFirst();
        seatsAreNumberedFromTheHighestDigit();
        lipsAreAtMost100BehindContests();
        lipsAreAtMost100BehindRehearsals();
        lipsAreAtLeast0();
        oneWhoIsAbsentRestsInContestsAlone();
        lipsMoveBehindEachBandAnew();
        spiritIsAtMost50BehindRehearsals();
        spiritIsAtMost50BehindContests();
        spiritIsAtLeast0();
        spiritMovesAllAtOnce();
        spiritByFiveIsCut();
        tiredByTwentyIsCut();
        leastAndGreatestNumbersOfASeat();
        hardAndWeightAreEachInstrumentsOwn();
        absencesGetFewerTo0();
        memberOfOneBandAtMost();
        check.end();
    }

    private static void atFirst() {
        BandDay day = Days.players(7);
        day.found(1234);
        check.same("lips at first", 0, day.player(0, 4));
        check.same("absent at first", 0, day.player(0, 5));
        check.same("no band at first", -1, day.player(0, 6));
        check.same("no seat at first", -1, day.player(0, 7));
        check.same("spirit at first", 0, day.band(0, 2));
        check.same("how often sat in a band at first", 0, day.player(0, 8));
        check.same("how often as a deputy at first", 0, day.player(0, 9));
        check.same("points at first", 0, day.band(0, 7));
        check.same("how often out at first", 0, day.band(0, 8));
        for (int what = 3; what <= 6; what++) {
            check.same("ahead of its first contest, band(0, " + what + ")", -1, day.band(0, what));
        }
        for (int seat = 0; seat < 4; seat++) {
            check.same("nobody on seat " + seat + " at first", -1, day.chair(0, seat, 1));
            check.same("who sat on seat " + seat + " ahead of a contest", -1, day.chair(0, seat, 2));
            check.same("3 hard at first", 3, day.setPiece(seat, 3));
            check.same("weight 1 at first", 1, day.setTaste(seat, 1));
        }
    }

    private static void seatsAreNumberedFromTheHighestDigit() {
        BandDay day = new BandDay();
        day.found(12344321);
        int[] due = {0, 1, 2, 3, 3, 2, 1, 0};
        for (int seat = 0; seat < 8; seat++) {
            check.same("8 seats: instrument of " + seat, due[seat], day.chair(0, seat, 0));
        }
        day.found(4);
        check.same("1 seat: its instrument", 3, day.chair(1, 0, 0));
        check.same("1 seat", 1, day.band(1, 0));
    }

    private static void lipsAreAtMost100BehindContests() {
        // Ahead of the last contest: 85 + 15 is just 100, 90 and 95 would be more.
        int[][] ahead = {{5, 4, 85}, {0, 6, 90}, {1, 6, 95}};
        for (int[] row : ahead) {
            BandDay day = Days.bandOf(1, 5);
            Days.rehearsals(day, 0, row[0]);
            Days.contests(day, row[1]);
            check.same("ahead of the last one", row[2], day.player(0, 4));
            day.contest();
            check.same("15 more than " + row[2], 100, day.player(0, 4));
            day.contest();
            check.same("15 more than 100", 100, day.player(0, 4));
        }
    }

    private static void lipsAreAtMost100BehindRehearsals() {
        BandDay day = Days.bandOf(1, 5);
        Days.rehearsals(day, 0, 19);
        check.same("19 rehearsals", 95, day.player(0, 4));
        day.rehearse(0);
        check.same("20 rehearsals", 100, day.player(0, 4));
        day.rehearse(0);
        check.same("21 rehearsals", 100, day.player(0, 4));
    }

    private static void lipsAreAtLeast0() {
        int[][] ahead = {{3, 5}, {2, 0}, {1, 0}, {0, 0}};
        for (int[] row : ahead) {
            BandDay day = Days.bandOf(1, 9);
            Days.rehearsals(day, 0, row[0]);
            day.seat(0, 0, -1);
            day.contest();
            check.same("10 less than " + 5 * row[0], row[1], day.player(0, 4));
        }
    }

    private static void oneWhoIsAbsentRestsInContestsAlone() {
        BandDay day = Days.bandOf(11, 5, 9);
        Days.rehearsals(day, 0, 6);
        day.absent(1, 2);
        day.rehearse(0);
        check.same("one who is absent is not tired by a rehearsal, and does not rest", 30, day.player(1, 4));
        check.same("one who is there is", 35, day.player(0, 4));
        day.contest();
        check.same("one who is absent rests in a contest", 20, day.player(1, 4));
        check.same("the rehearsals of others are no rest", 20, restedBehindARehearsal());
    }

    private static int restedBehindARehearsal() {
        BandDay day = Days.bandOf(1, 5);
        day.found(1);
        Days.rehearsals(day, 0, 4);
        day.rehearse(1);
        return day.player(0, 4);
    }

    private static void lipsMoveBehindEachBandAnew() {
        // The member of the band 0 sits in it, then rests behind the bands 1 and 2: 15, 5, 0.
        BandDay day = Days.bandOf(1, 9);
        day.addPlayer(8, 8, 8, 8);
        for (int band = 1; band < 3; band++) {
            day.found(1);
        }
        day.seat(1, 0, 1);
        day.contest();
        check.same("sat first: 15, 5, not less than 0", 0, day.player(0, 4));
        check.same("sat second: 0, 15, 5", 5, day.player(1, 4));
        // Now the band 1 comes first, then 2, then 0.
        day.contest();
        check.same("sat last: 0, 0, 15", 15, day.player(0, 4));
        check.same("sat first: 20, 10, 0", 0, day.player(1, 4));
    }

    private static void spiritIsAtMost50BehindRehearsals() {
        // With 0 to 2 contests of one member ahead, 15 rehearsals or one more make 45 to 48.
        int[][] rows = {{2, 15, 47, 50}, {0, 16, 48, 50}, {1, 16, 49, 50}, {2, 16, 50, 50}, {1, 15, 46, 49}};
        for (int[] row : rows) {
            BandDay day = Days.bandOf(1, 5);
            Days.contests(day, row[0]);
            Days.rehearsals(day, 0, row[1]);
            check.same("spirit ahead", row[2], day.band(0, 2));
            check.same("3 more than " + row[2], row[3], day.rehearse(0));
            check.same("its spirit then", row[3], day.band(0, 2));
        }
    }

    private static void spiritIsAtMost50BehindContests() {
        BandDay day = Days.bandOf(12, 5, 5);
        Days.rehearsals(day, 0, 15);
        int[] due = {47, 49, 50, 50};
        for (int contest = 0; contest < due.length; contest++) {
            day.contest();
            check.same("2 more behind contest " + contest, due[contest], day.band(0, 2));
        }
    }

    private static void spiritIsAtLeast0() {
        // One deputy takes 2: of 3, 2, 1 and 0.
        BandDay day = Days.players(5);
        day.found(1);
        day.rehearse(0);
        int[] due = {1, 0, 0};
        for (int contest = 0; contest < due.length; contest++) {
            day.contest();
            check.same("2 less behind contest " + contest, due[contest], day.band(0, 2));
        }
        BandDay two = Days.bandOf(1, 5);
        Days.contests(two, 2);
        two.seat(0, 0, -1);
        two.contest();
        check.same("2 - 2", 0, two.band(0, 2));
    }

    private static void spiritMovesAllAtOnce() {
        // 2 members sit, and 1 deputy: 50 + 2 - 2 stays 50; one after the other it would be 50, then 48.
        BandDay high = Days.bandOf(111, 5, 5);
        high.addPlayer(5, 5, 5, 5);
        Days.rehearsals(high, 0, 17);
        high.contest();
        check.same("50 + 2 - 2", 50, high.band(0, 2));
        // 1 member and 1 deputy: 0 + 1 - 2 is 0; with the deputy first it would be 0, then 1.
        BandDay low = Days.bandOf(11, 5);
        low.addPlayer(5, 5, 5, 5);
        low.contest();
        check.same("0 + 1 - 2", 0, low.band(0, 2));
        low.rehearse(0);
        low.contest();
        check.same("3 + 1 - 2", 2, low.band(0, 2));
    }

    private static void spiritByFiveIsCut() {
        int[][] rows = {{0, 0}, {4, 0}, {5, 1}, {9, 1}, {10, 2}, {44, 8}, {45, 9}, {49, 9}, {50, 10}};
        for (int[] row : rows) {
            BandDay day = withSpirit(row[0]);
            check.same("spirit", row[0], day.band(0, 2));
            check.same("10 + 5 - 3 + 1 and by spirit " + row[0], 13 + row[1], day.foresee(0, 1, 0));
        }
    }

    /** A band with one member of skill 5, rested, and this spirit. */
    private static BandDay withSpirit(int spirit) {
        BandDay day = Days.players(5, 9);
        day.found(1);
        // The other player sits for single points of spirit; a rehearsal without members tires nobody.
        day.seat(0, 0, 1);
        Days.contests(day, spirit % 3);
        day.seat(0, 0, -1);
        Days.rehearsals(day, 0, spirit / 3);
        day.seat(0, 0, 0);
        return day;
    }

    private static void tiredByTwentyIsCut() {
        // Rehearsals, how tired then, and the marks 10 + 5 - 3 - tired / 20 + 1 + spirit / 5.
        int[][] rows = {{3, 15, 13 - 0 + 1}, {4, 20, 13 - 1 + 2}, {7, 35, 13 - 1 + 4}, {8, 40, 13 - 2 + 4},
            {19, 95, 13 - 4 + 10}, {20, 100, 13 - 5 + 10}};
        for (int[] row : rows) {
            BandDay day = Days.bandOf(1, 5);
            Days.rehearsals(day, 0, row[0]);
            check.same("tired", row[1], day.player(0, 4));
            check.same("marks when " + row[1] + " tired", row[2], day.foresee(0, 1, 0));
        }
    }

    private static void leastAndGreatestNumbersOfASeat() {
        BandDay best = Days.bandOf(2, 9);
        best.setPiece(1, 0);
        best.setTaste(1, 5);
        check.same("(10 + 9 - 0) * 5 + 1", 96, best.foresee(0, 1, 0));
        best.setTaste(1, 1);
        check.same("(10 + 9 - 0) * 1 + 1", 20, best.foresee(0, 1, 0));
        BandDay worst = Days.bandOf(2, 0);
        worst.setPiece(1, 9);
        worst.setTaste(1, 1);
        check.same("(10 + 0 - 9) * 1 + 1", 2, worst.foresee(0, 1, 0));
        worst.setTaste(1, 5);
        check.same("(10 + 0 - 9) * 5 + 1", 6, worst.foresee(0, 1, 0));
    }

    private static void hardAndWeightAreEachInstrumentsOwn() {
        for (int instrument = 0; instrument < 4; instrument++) {
            BandDay day = Days.bandOf(1234, 5, 5, 5, 5);
            day.setPiece(instrument, 1);
            check.same("2 less hard for one", 4 * 13 + 2, day.foresee(0, 1, 0));
            day.setTaste(instrument, 4);
            check.same("14 weighed 4 times for one", 3 * 12 + 4 * 14 + 4, day.foresee(0, 1, 0));
            for (int other = 0; other < 4; other++) {
                check.same("how hard " + other + " is", other == instrument ? 1 : 3, day.setPiece(other, 3));
                check.same("the weight of " + other, other == instrument ? 4 : 1, day.setTaste(other, 1));
            }
        }
    }

    private static void absencesGetFewerTo0() {
        BandDay day = Days.bandOf(1, 9);
        day.absent(0, 20);
        for (int left = 19; left >= 0; left--) {
            day.contest();
            check.same("absent yet", left, day.player(0, 5));
            check.same("empty seats", 1, day.band(0, 6));
            check.same("players who are absent", left > 0 ? 1 : 0, day.count(4));
        }
        day.contest();
        check.same("not less than 0", 0, day.player(0, 5));
        check.same("no empty seat in the 21st", 0, day.band(0, 6));
    }

    private static void memberOfOneBandAtMost() {
        BandDay day = Days.players(5);
        day.found(11);
        day.found(11);
        for (int place = 0; place < 8; place++) {
            int band = place / 2 % 2;
            int seat = place % 2;
            day.seat(band, seat, 0);
            check.same("members in all", 1, day.count(3));
            check.same("members of the band", 1, day.band(band, 1));
            check.same("members of the other band", 0, day.band(1 - band, 1));
            check.same("nobody on the other seat", -1, day.chair(band, 1 - seat, 1));
            check.same("the band", band, day.player(0, 6));
            check.same("the seat", seat, day.player(0, 7));
        }
        day.seat(1, 1, -1);
        check.same("of no band", -1, day.player(0, 6));
        check.same("on no seat", -1, day.player(0, 7));
        check.same("nobody is a member", 0, day.count(3));
    }
}
