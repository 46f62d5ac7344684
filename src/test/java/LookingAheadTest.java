/** Promises 16, 17, 19 and 20: foresee, advise, mean, digest (free is tested with the players). */
final class LookingAheadTest {
    private static final Check check = new Check();

    public static void main(String[] args) {
        foresee();
        foreseeRefused();
        adviseBest();
        adviseNone();
        adviseLeastNumber();
        adviseHangsOnTheBandsAhead();
        adviseRefused();
        digestOfNew();
        digestOfAll();
        check.end();
    }

    /** Three bands with deputies, absent members and empty seats. */
    private static BandDay season() {
        BandDay day = new BandDay();
        for (int i = 0; i < 11; i++) {
            day.addPlayer(3 * i % 10, (7 * i + 2) % 10, (i * i + 1) % 10, 9 - i % 10);
        }
        day.found(11223);
        day.found(1344);
        day.found(2341);
        int[][] members = {{0, 0}, {0, 1}, {0, 2}, {0, 3}, {0, 4}, {1, 0}, {1, 1}, {1, 2}, {2, 0}, {2, 3}};
        for (int player = 0; player < members.length; player++) {
            day.seat(members[player][0], members[player][1], player);
        }
        day.setTaste(3, 4);
        day.setPiece(1, 7);
        day.absent(1, 2);
        day.absent(6, 1);
        return day;
    }

    private static void foresee() {
        int[] told = {3, 4, 5, 7};
        for (int ahead = 0; ahead < 3; ahead++) {
            BandDay held = season();
            BandDay asked = season();
            for (int i = 0; i < ahead; i++) {
                held.contest();
                asked.contest();
            }
            for (int contests = 1; contests <= 20; contests++) {
                held.contest();
                for (int band = 0; band < 3; band++) {
                    for (int what = 0; what < 4; what++) {
                        check.same("foresee(" + band + ", " + contests + ", " + what + ") behind " + ahead,
                                held.band(band, told[what]), foreseen(asked, band, contests, what));
                    }
                }
            }
        }
    }

    private static int foreseen(BandDay day, int band, int contests, int what) {
        long before = day.digest();
        int answer = day.foresee(band, contests, what);
        check.same("the digest behind foresee", before, day.digest());
        return answer;
    }

    private static void foreseeRefused() {
        BandDay day = season();
        for (int wrong : new int[] {-1, 3, 6, Integer.MIN_VALUE, Integer.MAX_VALUE}) {
            check.noIndex("foresee(" + wrong + ", 1, 0)", day, () -> day.foresee(wrong, 1, 0));
            check.noIndex("foresee(" + wrong + ", 0, 0)", day, () -> day.foresee(wrong, 0, 0));
        }
        for (int wrong : new int[] {-1, 4, Integer.MIN_VALUE, Integer.MAX_VALUE}) {
            check.noIndex("foresee(0, 1, " + wrong + ")", day, () -> day.foresee(0, 1, wrong));
            check.noIndex("foresee(0, 21, " + wrong + ")", day, () -> day.foresee(0, 21, wrong));
        }
        for (int wrong : new int[] {0, -1, 21, Integer.MIN_VALUE, Integer.MAX_VALUE}) {
            check.noArgument("foresee(0, " + wrong + ", 0)", day, () -> day.foresee(0, wrong, 0));
        }
    }

    private static int advised(BandDay day, int band) {
        long before = day.digest();
        int answer = day.advise(band);
        check.same("the digest behind advise", before, day.digest());
        return answer;
    }

    private static void adviseBest() {
        BandDay day = new BandDay();
        day.addPlayer(1, 1, 1, 9);
        day.addPlayer(1, 5, 1, 1);
        day.addPlayer(9, 1, 1, 1);
        day.found(121);
        day.found(124);
        for (int player = 0; player < 3; player++) {
            day.seat(1, player, player);
        }
        check.same("the first and the last seat", 8 * 0 + 2, advised(day, 1));
        int before = day.foresee(1, 1, 0);
        day.change(1, 0, 2);
        check.same("16 more marks then", before + 16, day.foresee(1, 1, 0));
        check.same("nothing better then", -1, advised(day, 1));
        day.change(1, 1, 2);
        check.same("two seats behind the first one", 8 * 1 + 2, advised(day, 1));
        day.setTaste(1, 5);
        day.setTaste(3, 2);
        day.change(1, 0, 1);
        // Cornet 8, horn 8 * 5, bass 8 * 2 now; the seats 0 and 1: 16 + 40 + 16, the seats 1 and 2: 8 + 60 + 16.
        check.same("by the taste: the horn first", 8 * 1 + 2, advisedBySearch(day, 1, 3));
    }

    /** What advise must answer by what change and foresee tell; the members are put back. */
    private static int advisedBySearch(BandDay day, int band, int seats) {
        int most = day.foresee(band, 1, 0);
        int best = -1;
        for (int number = 8 * seats - 1; number >= 0; number--) {
            int a = number / 8;
            int b = number % 8;
            if (a >= b || b >= seats) {
                continue;
            }
            day.change(band, a, b);
            int marks = day.foresee(band, 1, 0);
            day.change(band, a, b);
            if (marks > most || marks == most && best >= 0) {
                most = marks;
                best = number;
            }
        }
        check.same("advise(" + band + ") as searched", best, advised(day, band));
        return best;
    }

    private static void adviseNone() {
        BandDay day = new BandDay();
        day.addPlayer(9, 9, 9, 9);
        day.found(1);
        day.found(12341234);
        check.same("one seat", -1, advised(day, 0));
        check.same("a band with nobody", -1, advised(day, 1));
        day.seat(1, 0, 0);
        check.same("one who is as good on each seat", -1, advised(day, 1));
    }

    private static void adviseLeastNumber() {
        BandDay day = new BandDay();
        day.addPlayer(0, 9, 0, 0);
        day.found(11222);
        day.setPiece(0, 0);
        day.setPiece(1, 0);
        day.setTaste(0, 5);
        day.setTaste(1, 5);
        day.seat(0, 1, 0);
        // On any of the seats 2 to 4 the player gets more: the least number is that of 1 and 2.
        check.same("with nobody, the least number", 8 * 1 + 2, advised(day, 0));
        day.seat(0, 4, 0);
        check.same("not more marks on the seats 2 and 3", -1, advised(day, 0));
    }

    private static void adviseHangsOnTheBandsAhead() {
        // The band 0 comes first and takes the two deputies twice, or tires them: see what is left for the band 1.
        BandDay day = season();
        for (int contest = 0; contest < 8; contest++) {
            for (int band = 0; band < 3; band++) {
                advisedBySearch(day, band, day.band(band, 0));
            }
            day.contest();
            day.absent(contest, 1);
            day.absent(9 - contest, 2);
        }
    }

    private static void adviseRefused() {
        BandDay day = season();
        for (int wrong : new int[] {-1, 3, 6, Integer.MIN_VALUE, Integer.MAX_VALUE}) {
            check.noIndex("advise(" + wrong + ")", day, () -> day.advise(wrong));
        }
    }

    private static void digestOfNew() {
        long d = 613;
        for (int i = 0; i < 7; i++) {
            d = d * 31;
        }
        for (int i = 0; i < 4; i++) {
            d = (d * 31 + 3) * 31 + 1;
        }
        check.same("the digest of a new object", d, new BandDay().digest());
    }

    private static void digestOfAll() {
        BandDay day = season();
        int[] hard = {3, 7, 3, 3};
        int[] weight = {1, 1, 1, 4};
        for (int contest = 0; contest < 3; contest++) {
            check.same("the digest behind " + contest + " contests", told(day, hard, weight), day.digest());
            day.contest();
            day.found(4);
        }
    }

    private static long told(BandDay day, int[] hard, int[] weight) {
        long d = 613;
        for (int what = 0; what < 7; what++) {
            d = d * 31 + day.count(what);
        }
        for (int instrument = 0; instrument < 4; instrument++) {
            d = d * 31 + hard[instrument];
            d = d * 31 + weight[instrument];
        }
        for (int player = 0; player < day.count(1); player++) {
            for (int what = 0; what < 10; what++) {
                d = d * 31 + day.player(player, what);
            }
        }
        for (int band = 0; band < day.count(2); band++) {
            for (int what = 0; what < 9; what++) {
                d = d * 31 + day.band(band, what);
            }
            for (int seat = 0; seat < day.band(band, 0); seat++) {
                for (int what = 0; what < 3; what++) {
                    d = d * 31 + day.chair(band, seat, what);
                }
            }
        }
        return d;
    }
}
