/** "Terms", step 2 of a contest and what comes behind all bands: each limit of marks, places and points. */
final class MarksTest {
    private static final Check check = new Check();

    public static void main(String[] args) {
        playingGivesAtLeast0();
        eachEmptySeatTakes5();
        eachMemberOnTheOwnSeatGives1();
        lipsAheadOfTheContestCount();
        spiritAheadOfTheContestCounts();
        threeDeputiesAreNotOut();
        fourDeputiesAreOut();
        marksAreNeverLessThan0();
        pointsForTheFirstThree();
        noPointsForMarksOf0();
        placesByMarks();
        placesByFewerDeputies();
        placesByNumbers();
        placesOfThoseThatAreOut();
        turnsByTheNumberOfTheContest();
        turnsWithANewBand();
        oneBandAlone();
        check.end();
    }

    private static void playingGivesAtLeast0() {
        // Skill 0, 9 hard, weight 5: 10 + 0 - 9 - tired / 20 is 1, 0, 0 - and not less than 0.
        int[][] rows = {{0, 5}, {4, 0}, {8, 0}, {20, 0}};
        for (int[] row : rows) {
            BandDay day = Days.bandOf(1, 0);
            Days.rehearsals(day, 0, row[0]);
            day.setPiece(0, 9);
            day.setTaste(0, 5);
            int spirit = day.band(0, 2);
            check.same("marks when " + 5 * row[0] + " tired", row[1] + 1 + spirit / 5, day.foresee(0, 1, 0));
        }
    }

    private static void eachEmptySeatTakes5() {
        int seats = 1;
        for (int empty = 0; empty <= 3; empty++) {
            BandDay day = Days.bandOf(seats, 9);
            day.setPiece(0, 0);
            // A weight is not for an empty seat.
            day.setTaste(1, 5);
            check.same("marks with " + empty + " empty seats", 20 - 5 * empty, day.foresee(0, 1, 0));
            day.contest();
            check.same("empty seats", empty, day.band(0, 6));
            seats = seats * 10 + 2;
        }
    }

    private static void eachMemberOnTheOwnSeatGives1() {
        BandDay day = Days.bandOf(11, 5, 5);
        check.same("two members", 12 + 12 + 2, day.foresee(0, 1, 0));
        day.seat(0, 1, -1);
        check.same("a member and a deputy", 12 + 12 + 1, day.foresee(0, 1, 0));
        day.seat(0, 0, -1);
        check.same("two deputies", 12 + 12, day.foresee(0, 1, 0));
        day.seat(0, 1, 1);
        day.absent(1, 1);
        check.same("a deputy and an empty seat of one who is absent", 12 - 5, day.foresee(0, 1, 0));
    }

    private static void lipsAheadOfTheContestCount() {
        // 5 tired ahead of step 3, and 20 behind it; as a deputy of the second band with those 20.
        BandDay day = Days.bandOf(1, 5);
        day.found(1);
        day.rehearse(0);
        day.contest();
        check.same("marks when 5 tired", 12 + 1, day.band(0, 3));
        check.same("marks when 20 tired", 12 - 1, day.band(1, 3));
        check.same("20 + 15", 35, day.player(0, 4));
    }

    private static void spiritAheadOfTheContestCounts() {
        BandDay day = Days.bandOf(1111, 9, 9, 9, 9);
        day.contest();
        check.same("spirit 0 ahead", 4 * 17, day.band(0, 3));
        check.same("spirit 4 behind", 4, day.band(0, 2));
        check.same("spirit 4 ahead", 4 * 17, day.foresee(0, 1, 0));
        day.contest();
        // Lips 15, then 30 tired: 1 less each; spirit 8 ahead.
        check.same("spirit 8 ahead", 4 * 16 + 1, day.foresee(0, 1, 0));
    }

    private static void threeDeputiesAreNotOut() {
        BandDay day = Days.players(5, 5, 5);
        day.found(111);
        check.same("the first place", 0, day.contest());
        check.same("marks", 36, day.band(0, 3));
        check.same("deputies", 3, day.band(0, 5));
        check.same("how often out", 0, day.band(0, 8));
        check.same("points", 5, day.band(0, 7));
    }

    private static void fourDeputiesAreOut() {
        for (int deputies = 4; deputies <= 8; deputies++) {
            BandDay day = Days.players(new int[deputies]);
            day.found(11111111);
            Days.allHard(day, 0);
            day.contest();
            check.same("marks", 0, day.band(0, 3));
            check.same("deputies", deputies, day.band(0, 5));
            check.same("empty seats", 8 - deputies, day.band(0, 6));
            check.same("how often out", 1, day.band(0, 8));
            check.same("points", 0, day.band(0, 7));
            check.same("place", 0, day.band(0, 4));
            day.contest();
            check.same("how often out then", 2, day.band(0, 8));
        }
    }

    private static void marksAreNeverLessThan0() {
        // A member of skill 0, and an empty seat: 10 - hard + 1 - 5, for 9 to 5 hard.
        int[][] rows = {{9, 0}, {8, 0}, {7, 0}, {6, 0}, {5, 1}, {4, 2}};
        for (int[] row : rows) {
            BandDay day = Days.bandOf(12, 0);
            day.setPiece(0, row[0]);
            check.same("foreseen when " + row[0] + " hard", row[1], day.foresee(0, 1, 0));
            day.contest();
            check.same("marks when " + row[0] + " hard", row[1], day.band(0, 3));
            check.same("marks of 0 are not out", 0, day.band(0, 8));
            check.same("points when " + row[0] + " hard", row[1] > 0 ? 5 : 0, day.band(0, 7));
        }
        BandDay empty = new BandDay();
        empty.found(12341234);
        empty.contest();
        check.same("8 empty seats", 0, empty.band(0, 3));
    }

    private static void pointsForTheFirstThree() {
        BandDay day = Days.players(9, 8, 7, 6, 5, 4);
        for (int band = 0; band < 6; band++) {
            day.found(1);
            day.seat(band, 0, band);
        }
        int[] due = {5, 3, 1, 0, 0, 0};
        check.same("the first place", 0, day.contest());
        for (int band = 0; band < 6; band++) {
            check.same("place", band, day.band(band, 4));
            check.same("marks", 17 - band, day.band(band, 3));
            check.same("points of place " + band, due[band], day.band(band, 7));
        }
        Days.contests(day, 2);
        for (int band = 0; band < 6; band++) {
            check.same("points of three contests", 3 * due[band], day.band(band, 7));
        }
    }

    private static void noPointsForMarksOf0() {
        // So many bands have a member, all others nobody at all: they have places, but no points.
        int[] prizes = {5, 3, 1, 0};
        for (int good = 0; good <= 3; good++) {
            BandDay day = Days.players(9, 8, 7);
            for (int band = 0; band < 4; band++) {
                day.found(1);
            }
            for (int player = 0; player < 3; player++) {
                if (player < good) {
                    day.seat(player, 0, player);
                }
            }
            check.same("the first place", 0, day.contest());
            for (int band = 0; band < 4; band++) {
                check.same("place, " + good + " have marks", band, day.band(band, 4));
                check.same("marks, " + good + " have marks", band < good ? 17 - band : 0, day.band(band, 3));
                check.same("points, " + good + " have marks", band < good ? prizes[band] : 0, day.band(band, 7));
            }
        }
    }

    private static void placesByMarks() {
        BandDay day = Days.players(4, 5);
        day.found(1);
        day.found(1);
        day.seat(0, 0, 0);
        day.seat(1, 0, 1);
        check.same("1 mark more, the greater number", 1, day.contest());
        check.same("its place", 0, day.band(1, 4));
        check.same("the other place", 1, day.band(0, 4));
        // More marks are ahead of fewer deputies.
        BandDay deputy = Days.players(5, 0);
        deputy.found(1);
        deputy.found(1);
        deputy.seat(1, 0, 1);
        check.same("12 with a deputy, 8 without", 0, deputy.contest());
    }

    private static void placesByFewerDeputies() {
        // Band 0: one deputy of skill 5; band 1: a member of skill 4, and 1 for this.
        BandDay day = Days.players(5, 4);
        day.found(1);
        day.found(1);
        day.seat(1, 0, 1);
        check.same("as many marks, fewer deputies", 1, day.contest());
        check.same("marks of band 0", 12, day.band(0, 3));
        check.same("marks of band 1", 12, day.band(1, 3));
        check.same("place of band 0", 1, day.band(0, 4));
        check.same("points of band 0", 3, day.band(0, 7));
        check.same("points of band 1", 5, day.band(1, 7));
    }

    private static void placesByNumbers() {
        BandDay day = Days.players(7, 7, 7, 7, 7, 7);
        for (int band = 0; band < 6; band++) {
            day.found(1);
            day.seat(band, 0, 5 - band);
        }
        // Whichever comes first: behind the first contest the lips differ, but by less than 20.
        int[] points = {5, 3, 1, 0, 0, 0};
        check.same("the first place", 0, day.contest());
        for (int band = 0; band < 6; band++) {
            check.same("as many marks", 15, day.band(band, 3));
            check.same("place by number", band, day.band(band, 4));
            check.same("points by number", points[band], day.band(band, 7));
        }
        check.same("not by the turn", 0, day.contest());
    }

    private static void placesOfThoseThatAreOut() {
        // Band 0 is out with 5 deputies, then band 1 with 4; the fifth player is left for the band 2.
        BandDay day = Days.players(5, 5, 5, 5, 5);
        day.found(11111);
        day.found(1111);
        day.found(2);
        day.contest();
        int[] deputies = {5, 4, 1};
        int[] places = {2, 1, 0};
        for (int band = 0; band < 3; band++) {
            check.same("deputies of band " + band, deputies[band], day.band(band, 5));
            check.same("place of band " + band, places[band], day.band(band, 4));
        }
        BandDay equal = Days.players(5, 5, 5, 5);
        equal.found(1111);
        equal.found(1111);
        check.same("as many deputies, both out: the smaller number", 0, equal.contest());
        check.same("also when the other one comes first", 0, equal.contest());
        check.same("out", 2, equal.band(1, 8));
        check.same("no points", 0, equal.band(0, 7));
    }

    private static void turnsByTheNumberOfTheContest() {
        // The one player is a deputy of the first two bands in turn, and of no other.
        for (int bands = 3; bands <= 6; bands++) {
            BandDay day = Days.players(5);
            for (int band = 0; band < bands; band++) {
                day.found(1);
            }
            for (int contest = 0; contest <= 2 * bands; contest++) {
                day.contest();
                for (int band = 0; band < bands; band++) {
                    boolean early = band == contest % bands || band == (contest + 1) % bands;
                    check.same("contest " + contest + " of " + bands + " bands, band " + band,
                            early ? 0 : -1, day.chair(band, 0, 2));
                }
            }
        }
    }

    private static void turnsWithANewBand() {
        // Contest 4 of three bands begins with the band 1, of four bands with the band 0, of five with the band 4.
        int[] first = {1, 0, 4};
        for (int more = 0; more < 3; more++) {
            BandDay day = Days.players(5);
            for (int band = 0; band < 3; band++) {
                day.found(1);
            }
            Days.contests(day, 4);
            for (int i = 0; i < more; i++) {
                day.found(1);
            }
            day.contest();
            for (int band = 0; band < 3 + more; band++) {
                boolean early = band == first[more] || band == (first[more] + 1) % (3 + more);
                check.same(more + " more bands, band " + band, early ? 0 : -1, day.chair(band, 0, 2));
            }
        }
    }

    private static void oneBandAlone() {
        BandDay day = Days.bandOf(1, 5);
        for (int contest = 1; contest <= 12; contest++) {
            check.same("the first place", 0, day.contest());
            check.same("its place", 0, day.band(0, 4));
            check.same("its points", 5 * contest, day.band(0, 7));
            check.same("contests", contest, day.count(0));
        }
    }
}
