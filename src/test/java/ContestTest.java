/** The terms, and promises 11 to 15 and 19: contest, rank, count, mean, and what band and chair tell of contests. */
final class ContestTest {
    private static final Check check = new Check();

    public static void main(String[] args) {
        turnsAndTwoDeputyTimes();
        membersSitAheadOfDeputies();
        deputyLimits();
        deputyChoice();
        deputiesOfOtherBands();
        marks();
        playingIsNeverBelowZero();
        outOfTheContest();
        marksAreNeverBelowZero();
        places();
        pointsForOneMark();
        placesOfBandsThatAreOut();
        spirit();
        lips();
        absences();
        historyStays();
        rank();
        countAndMean();
        check.end();
    }

    private static BandDay players(int... skills) {
        BandDay day = new BandDay();
        for (int skill : skills) {
            day.addPlayer(skill, skill, skill, skill);
        }
        return day;
    }

    private static void turnsAndTwoDeputyTimes() {
        BandDay day = players(5);
        day.found(1);
        day.found(1);
        day.found(1);
        int[][] due = {{0, 0, -1}, {-1, 0, 0}, {0, -1, 0}, {0, 0, -1}};
        for (int contest = 0; contest < due.length; contest++) {
            check.same("contest " + contest + " first is", contest == 1 ? 1 : 0, day.contest());
            for (int band = 0; band < 3; band++) {
                check.same("contest " + contest + ", deputy of band " + band, due[contest][band], day.chair(band, 0, 2));
                check.same("contest " + contest + ", empty seats of band " + band,
                        due[contest][band] < 0 ? 1 : 0, day.band(band, 6));
            }
        }
        check.same("how often in all", 8, day.player(0, 8));
        check.same("as a deputy", 8, day.player(0, 9));
    }

    private static void membersSitAheadOfDeputies() {
        // The seat 0 is nobody's: the best for it is the member of seat 1, who sits there.
        BandDay day = players(5, 2);
        day.found(11);
        day.seat(0, 1, 0);
        for (int i = 0; i < 20; i++) {
            day.rehearse(0);
        }
        check.same("lips as tired as can be", 100, day.player(0, 4));
        day.contest();
        check.same("the member sits, also with tired lips", 0, day.chair(0, 1, 2));
        check.same("the deputy behind", 1, day.chair(0, 0, 2));
        check.same("the member was no deputy", 0, day.player(0, 9));
        check.same("one deputy", 1, day.band(0, 5));
    }

    private static void deputyLimits() {
        BandDay day = players(3, 4, 5, 6);
        day.found(1);
        day.seat(0, 0, 0);
        day.absent(0, 2);
        day.contest();
        check.same("1 more than the member who is absent", 1, day.chair(0, 0, 2));
        day.absent(1, 1);
        day.contest();
        check.same("none with 2 more", -1, day.chair(0, 0, 2));
        day.seat(0, 0, -1);
        day.contest();
        check.same("5 at most on a seat without a member", 2, day.chair(0, 0, 2));
        day.absent(2, 1);
        day.absent(1, 1);
        day.absent(0, 1);
        day.contest();
        check.same("none with 6", -1, day.chair(0, 0, 2));

        BandDay high = players(9, 9);
        high.found(2);
        high.seat(0, 0, 1);
        high.absent(1, 1);
        high.contest();
        check.same("as good as the member", 0, high.chair(0, 0, 2));
    }

    private static void deputyChoice() {
        BandDay day = players(4, 5, 5, 5);
        day.found(3);
        day.found(12);
        day.contest();
        check.same("the greatest skill, the smallest number", 1, day.chair(0, 0, 2));
        check.same("less tired lips", 2, day.chair(1, 0, 2));
        check.same("does not sit there yet", 3, day.chair(1, 1, 2));
        check.same("rested behind the other band", 5, day.player(1, 4));

        BandDay skilled = new BandDay();
        skilled.addPlayer(5, 1, 0, 0);
        skilled.addPlayer(1, 5, 0, 0);
        skilled.found(21);
        skilled.contest();
        check.same("the skill for the instrument of seat 0", 1, skilled.chair(0, 0, 2));
        check.same("the skill for the instrument of seat 1", 0, skilled.chair(0, 1, 2));

        BandDay order = players(5, 5);
        order.found(11);
        order.found(1);
        order.seat(1, 0, 0);
        order.rehearse(1);
        order.contest();
        check.same("ascending seats: the first has the choice", 1, order.chair(0, 0, 2));
        check.same("the second what is left", 0, order.chair(0, 1, 2));
    }

    private static void deputiesOfOtherBands() {
        BandDay day = players(5, 0);
        day.found(1);
        day.found(1);
        day.seat(1, 0, 0);
        day.seat(0, 0, 1);
        day.absent(1, 3);
        day.contest();
        check.same("too good for the absent one's seat", -1, day.chair(0, 0, 2));
        day.seat(0, 0, -1);
        day.contest();
        check.same("a member of another band", 0, day.chair(0, 0, 2));
        check.same("who sits in the own band, too", 0, day.chair(1, 0, 2));
        check.same("in all", 3, day.player(0, 8));
        check.same("as a deputy", 1, day.player(0, 9));
    }

    private static void marks() {
        BandDay day = new BandDay();
        day.addPlayer(9, 1, 1, 1);
        day.addPlayer(1, 4, 1, 1);
        day.addPlayer(1, 1, 2, 5);
        day.found(1234);
        day.seat(0, 0, 0);
        day.seat(0, 1, 1);
        day.setTaste(0, 5);
        day.setTaste(1, 2);
        day.setPiece(1, 9);
        day.setPiece(3, 0);
        for (int i = 0; i < 4; i++) {
            day.rehearse(0);
        }
        // Seat 0: (10 + 9 - 3 - 20 / 20) * 5 + 1 = 76; seat 1: (10 + 4 - 9 - 1) * 2 + 1 = 9;
        // seat 2, a deputy: 10 + 2 - 3 = 9; seat 3 is empty: -5; spirit 12 / 5 = 2.
        check.same("first", 0, day.contest());
        check.same("marks", 91, day.band(0, 3));
        check.same("place", 0, day.band(0, 4));
        check.same("deputies", 1, day.band(0, 5));
        check.same("empty seats", 1, day.band(0, 6));
        check.same("points", 5, day.band(0, 7));
        check.same("times out", 0, day.band(0, 8));
        check.same("spirit 12 + 2 - 2", 12, day.band(0, 2));
        check.same("the member stays", 0, day.chair(0, 0, 1));
        check.same("no member", -1, day.chair(0, 2, 1));
        check.same("the deputy", 2, day.chair(0, 2, 2));
        check.same("the empty seat", -1, day.chair(0, 3, 2));

        BandDay tired = players(9);
        tired.found(1);
        tired.seat(0, 0, 0);
        tired.rehearse(0);
        tired.rehearse(0);
        tired.rehearse(0);
        tired.contest();
        check.same("19 or less tired does not count: 16 + 1 + 9 / 5", 18, tired.band(0, 3));
        check.same("lips 30 then", 30, tired.player(0, 4));
        tired.contest();
        check.same("tired / 20 is cut: 15 + 1 + 10 / 5", 18, tired.band(0, 3));
    }

    private static void playingIsNeverBelowZero() {
        BandDay day = players(0, 9);
        day.found(12);
        day.seat(0, 0, 0);
        day.seat(0, 1, 1);
        for (int i = 0; i < 20; i++) {
            day.rehearse(0);
        }
        day.setPiece(0, 9);
        day.setTaste(0, 5);
        day.contest();
        // Seat 0: 10 + 0 - 9 - 5 is below 0: 0, and 1 for the member; seat 1: 10 + 9 - 3 - 5 = 11, and 1; spirit 10.
        check.same("marks", 23, day.band(0, 3));
    }

    private static void outOfTheContest() {
        BandDay day = players(5, 5, 5, 5, 0);
        day.found(11112);
        day.seat(0, 4, 4);
        for (int i = 0; i < 4; i++) {
            day.rehearse(0);
        }
        day.absent(3, 1);
        day.contest();
        // (10 + 5 - 3) * 3 - 5 + (10 + 0 - 3 - 20 / 20) + 1 + 12 / 5
        check.same("3 deputies are not out", 40, day.band(0, 3));
        check.same("times out", 0, day.band(0, 8));
        check.same("spirit 12 + 1 - 6", 7, day.band(0, 2));
        check.same("4 deputies: first all the same", 0, day.contest());
        check.same("marks", 0, day.band(0, 3));
        check.same("place", 0, day.band(0, 4));
        check.same("deputies", 4, day.band(0, 5));
        check.same("empty seats", 0, day.band(0, 6));
        check.same("no more points", 5, day.band(0, 7));
        check.same("once out", 1, day.band(0, 8));
        check.same("spirit 7 + 1 - 8", 0, day.band(0, 2));
        check.same("who sat, also when out", 1, day.player(3, 9));
        check.same("tired, also when out", 15, day.player(3, 4));
        check.same("deputies in all", 7, day.count(5));
        check.same("empty seats in all", 1, day.count(6));
        check.same("the mean with 0", 0.0, day.mean());
    }

    private static void marksAreNeverBelowZero() {
        BandDay day = players(9);
        day.found(12341234);
        day.found(1);
        day.seat(0, 0, 0);
        day.contest();
        check.same("17 - 35 is below 0", 0, day.band(0, 3));
        check.same("7 empty seats", 7, day.band(0, 6));
        check.same("no points for the first place with 0", 0, day.band(0, 7));
        check.same("not out", 0, day.band(0, 8));
        check.same("spirit", 1, day.band(0, 2));
        check.same("second with as few deputies", 1, day.band(1, 4));
        check.same("no points for it", 0, day.band(1, 7));
    }

    private static void places() {
        BandDay day = players(9, 8, 7, 7, 6);
        for (int band = 0; band < 5; band++) {
            day.found(1);
            day.seat(band, 0, (band + 4) % 5);
        }
        check.same("the band of the best", 1, day.contest());
        int[] places = {4, 0, 1, 2, 3};
        int[] points = {0, 5, 3, 1, 0};
        for (int band = 0; band < 5; band++) {
            check.same("place of band " + band, places[band], day.band(band, 4));
            check.same("points of band " + band, points[band], day.band(band, 7));
        }

        // Band 0 has a deputy of skill 5, band 1 a member of skill 4 and 1 more: as many marks.
        BandDay deputy = players(5, 4);
        deputy.found(1);
        deputy.found(1);
        deputy.seat(1, 0, 1);
        check.same("fewer deputies", 1, deputy.contest());
        check.same("as many marks", deputy.band(0, 3), deputy.band(1, 3));
        check.same("place with a deputy", 1, deputy.band(0, 4));
        check.same("points with a deputy", 3, deputy.band(0, 7));
    }

    private static void pointsForOneMark() {
        BandDay day = players(0);
        day.found(4);
        day.setPiece(3, 9);
        day.contest();
        check.same("a deputy with 10 + 0 - 9", 1, day.band(0, 3));
        check.same("points for one mark", 5, day.band(0, 7));
        day.setTaste(3, 2);
        day.contest();
        check.same("weighed twice", 2, day.band(0, 3));
    }

    private static void placesOfBandsThatAreOut() {
        // Four players are deputies in the band 0, then in the band 1; nobody is left for the band 2.
        BandDay day = players(5, 5, 5, 5);
        day.found(1111);
        day.found(11111111);
        day.found(1);
        check.same("marks 0 without deputies are ahead of those that are out", 2, day.contest());
        int[] deputies = {4, 4, 0};
        int[] empties = {0, 4, 1};
        int[] places = {1, 2, 0};
        int[] outs = {1, 1, 0};
        for (int band = 0; band < 3; band++) {
            check.same("marks of band " + band, 0, day.band(band, 3));
            check.same("deputies of band " + band, deputies[band], day.band(band, 5));
            check.same("empty seats of band " + band, empties[band], day.band(band, 6));
            check.same("place of band " + band, places[band], day.band(band, 4));
            check.same("points of band " + band, 0, day.band(band, 7));
            check.same("how often band " + band + " was out", outs[band], day.band(band, 8));
            check.same("rank by points " + band, band, day.rank(band));
        }
    }

    private static void spirit() {
        BandDay day = players(5, 5, 5, 5, 5, 5, 5, 5);
        day.found(11111111);
        for (int seat = 0; seat < 8; seat++) {
            day.seat(0, seat, seat);
        }
        for (int i = 1; i <= 6; i++) {
            day.contest();
            check.same("spirit behind contest " + i, 8 * i, day.band(0, 2));
        }
        day.contest();
        check.same("spirit is 50 at most", 50, day.band(0, 2));
        day.absent(0, 1);
        day.contest();
        check.same("all at once, then at most 50: 7 members, no deputy", 50, day.band(0, 2));
        day.addPlayer(0, 0, 0, 0);
        day.absent(0, 1);
        day.absent(1, 1);
        day.contest();
        check.same("50 + 6 - 2 for the one deputy", 50, day.band(0, 2));
        for (int seat = 2; seat < 8; seat++) {
            day.seat(0, seat, -1);
        }
        day.seat(0, 0, -1);
        day.contest();
        check.same("7 deputies and 1 member", 7, day.band(0, 5));
        check.same("spirit 50 + 1 - 14", 37, day.band(0, 2));
        for (int i = 1; i <= 2; i++) {
            day.contest();
            check.same("spirit behind deputies " + i, 37 - 13 * i, day.band(0, 2));
        }
        day.contest();
        check.same("spirit is not below 0", 0, day.band(0, 2));
    }

    private static void lips() {
        BandDay day = players(5, 9, 9, 3);
        day.found(1);
        day.found(1);
        day.found(1);
        day.seat(0, 0, 1);
        day.seat(1, 0, 2);
        day.absent(3, 1);
        day.contest();
        check.same("sat first, rested twice", 0, day.player(1, 4));
        check.same("rested, sat, rested", 5, day.player(2, 4));
        check.same("rested twice, sat", 15, day.player(0, 4));
        check.same("never below 0", 0, day.player(3, 4));
        BandDay alone = players(9, 8);
        alone.found(12);
        alone.seat(0, 0, 0);
        alone.seat(0, 1, 1);
        for (int i = 1; i <= 6; i++) {
            alone.contest();
            check.same("tired behind contest " + i, 15 * i, alone.player(0, 4));
        }
        alone.contest();
        check.same("100 at most", 100, alone.player(0, 4));
        alone.absent(0, 3);
        alone.contest();
        check.same("one who is absent rests", 90, alone.player(0, 4));
        check.same("the other one does not", 100, alone.player(1, 4));
    }

    private static void absences() {
        BandDay day = players(5);
        day.found(1);
        day.seat(0, 0, 0);
        day.absent(0, 2);
        day.contest();
        check.same("one contest less", 1, day.player(0, 5));
        check.same("absent", -1, day.chair(0, 0, 2));
        day.contest();
        check.same("there again", 0, day.player(0, 5));
        check.same("still absent from that one", -1, day.chair(0, 0, 2));
        day.contest();
        check.same("not less than 0", 0, day.player(0, 5));
        check.same("sits again", 0, day.chair(0, 0, 2));
    }

    private static void historyStays() {
        BandDay day = players(5, 4);
        day.found(11);
        day.seat(0, 0, 0);
        day.contest();
        day.change(0, 0, 1);
        day.seat(0, 0, 1);
        day.seat(0, 1, -1);
        check.same("who sat on seat 0", 0, day.chair(0, 0, 2));
        check.same("who sat on seat 1", 1, day.chair(0, 1, 2));
        check.same("the deputies of the latest contest", 1, day.band(0, 5));
        check.same("its empty seats", 0, day.band(0, 6));
    }

    private static void rank() {
        BandDay day = players(9, 8, 7);
        for (int band = 0; band < 4; band++) {
            day.found(1);
        }
        for (int place = 0; place < 4; place++) {
            check.same("without points, rank(" + place + ")", place, day.rank(place));
        }
        day.seat(3, 0, 0);
        day.seat(1, 0, 1);
        day.seat(2, 0, 2);
        day.contest();
        int[] due = {3, 1, 2, 0};
        for (int place = 0; place < 4; place++) {
            check.same("rank(" + place + ")", due[place], day.rank(place));
        }
        day.seat(3, 0, -1);
        day.seat(3, 0, 2);
        day.seat(2, 0, 0);
        day.contest();
        // Band 2 has 1 + 5, band 1 has 3 + 3, band 3 has 5 + 1.
        int[] equal = {1, 2, 3, 0};
        for (int place = 0; place < 4; place++) {
            check.same("with as many points, rank(" + place + ")", equal[place], day.rank(place));
        }
        for (int wrong : new int[] {-1, 4, 6, Integer.MIN_VALUE, Integer.MAX_VALUE}) {
            check.noIndex("rank(" + wrong + ")", day, () -> day.rank(wrong));
        }
    }

    private static void countAndMean() {
        BandDay day = players(5, 6, 9);
        day.found(11);
        day.found(1);
        day.seat(1, 0, 1);
        day.absent(2, 3);
        check.same("no mean ahead of a contest", 0.0, day.mean());
        day.contest();
        // Band 0: 12 for the deputy 0, -5; band 1: 13 + 1.
        check.same("the mean", 10.5, day.mean());
        int[] due = {1, 3, 2, 1, 1, 1, 1};
        for (int what = 0; what < due.length; what++) {
            check.same("count(" + what + ")", due[what], day.count(what));
        }
        day.found(2222);
        check.same("the mean without a new band", 10.5, day.mean());
        day.contest();
        // The band 1 comes first, then the band 2 with one deputy, then the band 0 with the same one, then tired.
        check.same("three marks", (day.band(0, 3) + day.band(1, 3) + day.band(2, 3)) / 3.0, day.mean());
        check.same("two contests", 2, day.count(0));
        for (int wrong : new int[] {-1, 7, Integer.MIN_VALUE, Integer.MAX_VALUE}) {
            check.noIndex("count(" + wrong + ")", day, () -> day.count(wrong));
        }
    }
}
