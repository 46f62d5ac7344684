import java.math.BigInteger;
import java.util.ArrayList;
import java.util.List;

/** Promises 16 to 20: the least and the greatest questions, none to be found, nothing changed, and the wrap-around. */
final class AheadLimitsTest {
    private static final Check check = new Check();

    public static void main(String[] args) {
        foreseeOneAndTwentyContests();
        foreseeIsOfTheLastOfThem();
        foreseePastAnAbsence();
        foreseeABandThatIsOut();
        foreseeAllPlacesAndPoints();
        foreseeChangesNothing();
        adviseNoneOfOneSeat();
        adviseNoneOfNobody();
        adviseNoneOfNoMoreMarks();
        adviseTheFirstAndTheLastTwoSeats();
        adviseTheLeastNumberOfSeveral();
        adviseTheMostMarks();
        adviseForTheContestThatComes();
        adviseIntoAndOutOfTheContest();
        adviseBehindTheBandsAhead();
        adviseChangesNothing();
        freeNone();
        freeTheGreatestSkillAndTheSmallestNumber();
        meanOfNone();
        meanOfAllBands();
        digestWrapsAround();
        digestOfEachNumber();
        check.end();
    }

    /** Two bands with a member for each seat, one absent for a while, and two players more. */
    private static BandDay season() {
        BandDay day = Days.players(9, 7, 4, 8, 6, 2, 5, 3);
        day.found(123);
        day.found(234);
        for (int player = 0; player < 6; player++) {
            day.seat(player / 3, player % 3, player);
        }
        day.absent(2, 3);
        day.absent(4, 7);
        day.setTaste(2, 3);
        return day;
    }

    private static void foreseeOneAndTwentyContests() {
        int[] told = {3, 4, 5, 7};
        for (int contests : new int[] {1, 2, 19, 20}) {
            BandDay held = season();
            Days.contests(held, contests);
            for (int what = 0; what < 4; what++) {
                for (int band = 0; band < 2; band++) {
                    check.same("foresee(" + band + ", " + contests + ", " + what + ")",
                            held.band(band, told[what]), season().foresee(band, contests, what));
                }
            }
        }
    }

    private static void foreseeIsOfTheLastOfThem() {
        // The lips are 0, 15, 30 .. tired, the spirit 0, 1, 2 ..: 15 + 1 - tired / 20 + spirit / 5 marks.
        BandDay day = Days.bandOf(1, 8);
        int[] due = {16, 16, 15, 14, 13, 14, 13, 12, 12, 12, 13};
        for (int contests = 1; contests <= due.length; contests++) {
            check.same("marks in the last of " + contests, due[contests - 1], day.foresee(0, contests, 0));
            check.same("points behind " + contests, 5 * contests, day.foresee(0, contests, 3));
        }
        day.contest();
        check.same("points behind one more", 10, day.foresee(0, 1, 3));
        check.same("points behind 20 more", 105, day.foresee(0, 20, 3));
    }

    private static void foreseePastAnAbsence() {
        BandDay day = Days.bandOf(1, 5);
        day.absent(0, 20);
        check.same("absent from all 20", 0, day.foresee(0, 20, 3));
        day.absent(0, 19);
        check.same("there in the last of 20", 5, day.foresee(0, 20, 3));
        check.same("marks there", 13, day.foresee(0, 20, 0));
        check.same("not in the 19th", 0, day.foresee(0, 19, 0));
        check.same("absent as before", 19, day.player(0, 5));
    }

    private static void foreseeABandThatIsOut() {
        BandDay day = Days.players(5, 5, 5, 5);
        day.found(1111);
        check.same("marks", 0, day.foresee(0, 1, 0));
        check.same("place", 0, day.foresee(0, 1, 1));
        check.same("deputies", 4, day.foresee(0, 1, 2));
        check.same("points", 0, day.foresee(0, 1, 3));
        check.same("not out for all that", 0, day.band(0, 8));
        check.same("deputies in all", 0, day.count(5));
    }

    private static void foreseeAllPlacesAndPoints() {
        BandDay day = Days.players(9, 8, 7, 6, 5, 4);
        for (int band = 0; band < 6; band++) {
            day.found(1);
            day.seat(band, 0, 5 - band);
        }
        int[] points = {0, 0, 0, 1, 3, 5};
        for (int band = 0; band < 6; band++) {
            check.same("place of band " + band, 5 - band, day.foresee(band, 1, 1));
            check.same("points of band " + band, points[band], day.foresee(band, 1, 3));
            check.same("still no place", -1, day.band(band, 4));
        }
    }

    private static void foreseeChangesNothing() {
        BandDay day = season();
        BandDay twin = season();
        for (int round = 0; round < 5; round++) {
            long before = day.digest();
            int first = day.foresee(0, 20, 3);
            day.foresee(1, 1, 0);
            day.foresee(1, 7, 2);
            check.same("the same question again", first, day.foresee(0, 20, 3));
            check.same("the digest", before, day.digest());
            check.same("the contest behind it", twin.contest(), day.contest());
            check.same("the digest behind that", twin.digest(), day.digest());
        }
    }

    private static void adviseNoneOfOneSeat() {
        BandDay day = Days.bandOf(1, 9);
        check.same("one seat with a member", -1, day.advise(0));
        day.found(4);
        check.same("one seat with nobody", -1, day.advise(1));
    }

    private static void adviseNoneOfNobody() {
        BandDay day = new BandDay();
        day.found(12341234);
        check.same("no players", -1, day.advise(0));
        day.addPlayer(9, 1, 1, 1);
        day.addPlayer(1, 1, 1, 9);
        check.same("no members", -1, day.advise(0));
        day.seat(0, 1, 0);
        day.seat(0, 2, 1);
        day.absent(0, 1);
        day.absent(1, 1);
        check.same("all members are absent", -1, day.advise(0));
    }

    private static void adviseNoneOfNoMoreMarks() {
        check.same("as many marks", -1, Days.bandOf(12341234, 5, 5, 5, 5, 5, 5, 5, 5).advise(0));
        check.same("the same instrument", -1, Days.bandOf(11, 1, 9).advise(0));
        BandDay best = new BandDay();
        best.addPlayer(9, 0, 0, 0);
        best.addPlayer(0, 1, 0, 0);
        best.found(12);
        best.seat(0, 0, 0);
        best.seat(0, 1, 1);
        check.same("less marks", -1, best.advise(0));
        best.change(0, 0, 1);
        check.same("more marks", 1, best.advise(0));

        // Just 1 more is more.
        BandDay one = new BandDay();
        one.addPlayer(5, 6, 0, 0);
        one.addPlayer(5, 5, 0, 0);
        one.found(12);
        one.seat(0, 0, 0);
        one.seat(0, 1, 1);
        check.same("1 more", 1, one.advise(0));
    }

    private static void adviseTheFirstAndTheLastTwoSeats() {
        for (int a = 0; a < 8; a++) {
            for (int b = a + 1; b < 8; b++) {
                // All players are as good on each seat, but two, who are on one another's.
                BandDay day = wrongSeats(a, b);
                check.same("8 * " + a + " + " + b, 8 * a + b, day.advise(0));
                day.change(0, a, b);
                check.same("none behind that change", -1, day.advise(0));
            }
        }
    }

    /** 8 seats; the players of the seats a and b play a bass on a horn's seat, and the other way round. */
    private static BandDay wrongSeats(int a, int b) {
        BandDay day = new BandDay();
        int seats = 0;
        for (int seat = 0; seat < 8; seat++) {
            seats = seats * 10 + (seat == a ? 2 : seat == b ? 4 : 1);
            day.addPlayer(5, seat == b ? 9 : 0, 0, seat == a ? 9 : 0);
        }
        day.found(seats);
        for (int seat = 0; seat < 8; seat++) {
            day.seat(0, seat, seat);
        }
        return day;
    }

    private static void adviseTheLeastNumberOfSeveral() {
        // A horn player on a cornet's seat, and horns on all others: each of them is as good a change.
        BandDay day = new BandDay();
        day.addPlayer(0, 9, 0, 0);
        for (int i = 1; i < 8; i++) {
            day.addPlayer(0, 0, 0, 0);
        }
        day.found(12222222);
        for (int seat = 0; seat < 8; seat++) {
            day.seat(0, seat, seat);
        }
        check.same("the seats 0 and 1", 1, day.advise(0));
        day.found(22222221);
        for (int seat = 0; seat < 8; seat++) {
            day.seat(1, seat, 7 - seat);
        }
        check.same("the seats 0 and 7, not 1 and 7 to 6 and 7", 7, day.advise(1));
    }

    private static void adviseTheMostMarks() {
        // A change of the seats 0 and 1 gives 1 more, of 0 and 2 gives 2 more, of 1 and 2 gives none.
        BandDay day = new BandDay();
        day.addPlayer(5, 6, 7, 0);
        day.addPlayer(5, 5, 5, 0);
        day.addPlayer(5, 5, 5, 0);
        day.found(123);
        for (int seat = 0; seat < 3; seat++) {
            day.seat(0, seat, seat);
        }
        check.same("2 more are more than 1 more", 2, day.advise(0));
        day.setTaste(1, 3);
        check.same("3 more are more than 2 more", 1, day.advise(0));
        day.setTaste(2, 2);
        check.same("4 more are more than 3 more", 2, day.advise(0));
    }

    private static void adviseForTheContestThatComes() {
        // The member of seat 0 would be better on seat 1, but is absent from the contest that comes.
        BandDay day = new BandDay();
        day.addPlayer(0, 9, 0, 0);
        day.addPlayer(0, 0, 0, 0);
        day.found(12);
        day.seat(0, 0, 0);
        day.seat(0, 1, 1);
        day.absent(0, 1);
        check.same("absent", -1, day.advise(0));
        day.absent(0, 0);
        check.same("there", 1, day.advise(0));
    }

    private static void adviseIntoAndOutOfTheContest() {
        // Four members are absent, whom the other four may just sit in for: so the band is out.
        // The member of seat 0 is no horn player: on the seat 4 nobody is weak enough to sit in for this one.
        BandDay day = new BandDay();
        for (int i = 0; i < 4; i++) {
            day.addPlayer(i == 0 ? 8 : 9, i == 0 ? 0 : 9, 0, 0);
        }
        for (int i = 4; i < 8; i++) {
            day.addPlayer(9, 9, 0, 0);
        }
        for (int i = 8; i < 12; i++) {
            day.addPlayer(9, 2, 0, 0);
        }
        day.found(11112222);
        for (int seat = 0; seat < 8; seat++) {
            day.seat(0, seat, seat);
        }
        for (int player = 0; player < 4; player++) {
            day.absent(player, 1);
        }
        check.same("out as it is", 0, day.foresee(0, 1, 0));
        check.same("with 4 deputies", 4, day.foresee(0, 1, 2));
        check.same("in by the seats 0 and 4", 4, day.advise(0));
        day.change(0, 0, 4);
        check.same("3 deputies then", 3, day.foresee(0, 1, 2));
        check.same("none is better than being in", -1, day.advise(0));
    }

    private static void adviseBehindTheBandsAhead() {
        check.same("first in turn, 5 tired: 1 more mark", 1, betterHorn(true).advise(0));
        check.same("behind a band, 20 tired: no more marks", -1, betterHorn(false).advise(1));

        BandDay day = oneDeputy(0);
        check.same("first in turn", 1, day.advise(0));
        check.same("once a deputy ahead", 1, oneDeputy(1).advise(1));
        day = oneDeputy(2);
        check.same("twice a deputy ahead", -1, day.advise(2));
        day.contest();
        check.same("once a deputy ahead in the next contest", 1, day.advise(2));
    }

    /** The better horn of a band is on the lighter seat, 5 tired, and a deputy of the other band. */
    private static BandDay betterHorn(boolean first) {
        BandDay day = new BandDay();
        day.addPlayer(0, 5, 5, 0);
        day.addPlayer(5, 6, 6, 0);
        day.found(first ? 23 : 1);
        day.found(first ? 1 : 23);
        int band = first ? 0 : 1;
        day.seat(band, 0, 0);
        day.seat(band, 1, 1);
        day.rehearse(band);
        day.setTaste(1, 2);
        return day;
    }

    /**
     * The last band has one absent member, and a deputy who may sit on the seat without a member alone, which
     * had best be the first one. So many bands ahead of it have this deputy, too.
     */
    private static BandDay oneDeputy(int bandsAhead) {
        BandDay day = new BandDay();
        day.addPlayer(3, 0, 0, 0);
        day.addPlayer(5, 5, 0, 5);
        for (int band = 0; band < bandsAhead; band++) {
            day.found(4);
        }
        day.found(12);
        day.seat(bandsAhead, 0, 0);
        day.absent(0, 5);
        day.setTaste(0, 2);
        return day;
    }

    private static void adviseChangesNothing() {
        BandDay day = wrongSeats(2, 5);
        BandDay twin = wrongSeats(2, 5);
        for (int round = 0; round < 3; round++) {
            long before = day.digest();
            check.same("the advice", 8 * 2 + 5, day.advise(0));
            check.same("the digest", before, day.digest());
            check.same("the same question again", 8 * 2 + 5, day.advise(0));
            check.same("the member of seat 2", 2, day.chair(0, 2, 1));
            check.same("the member of seat 5", 5, day.chair(0, 5, 1));
            check.same("the contest behind it", twin.contest(), day.contest());
            check.same("the digest behind that", twin.digest(), day.digest());
        }
    }

    private static void freeNone() {
        BandDay day = new BandDay();
        for (int instrument = 0; instrument < 4; instrument++) {
            check.same("no players", -1, day.free(instrument));
        }
        day.addPlayer(0, 0, 0, 0);
        check.same("one without any skill", 0, day.free(0));
        day.absent(0, 1);
        check.same("all absent", -1, day.free(0));
        day.absent(0, 0);
        check.same("there again", 0, day.free(0));
        day.found(1);
        day.seat(0, 0, 0);
        check.same("all in a band", -1, day.free(0));
        day.seat(0, 0, -1);
        check.same("in no band again", 0, day.free(0));
    }

    private static void freeTheGreatestSkillAndTheSmallestNumber() {
        BandDay day = new BandDay();
        for (int i = 0; i < 24; i++) {
            day.addPlayer(i % 10, 9 - i % 10, i == 23 ? 1 : 0, 7);
        }
        check.same("of 9 and 19 the smaller one", 9, day.free(0));
        check.same("of 0, 10 and 20 the smallest one", 0, day.free(1));
        check.same("the last one", 23, day.free(2));
        check.same("of all the smallest one", 0, day.free(3));
        day.absent(9, 1);
        check.same("of 19", 19, day.free(0));
        day.absent(19, 1);
        check.same("of skill 8", 8, day.free(0));
    }

    private static void meanOfNone() {
        BandDay day = new BandDay();
        check.same("no bands", 0.0, day.mean());
        day.found(1);
        check.same("no contest", 0.0, day.mean());
        day.contest();
        check.same("marks of 0", 0.0, day.mean());
    }

    private static void meanOfAllBands() {
        BandDay day = Days.players(9, 8, 8, 5, 5, 5, 5);
        day.found(1);
        day.found(1);
        day.found(1);
        for (int band = 0; band < 3; band++) {
            day.seat(band, 0, band);
        }
        day.contest();
        check.same("17, 16 and 16", 49 / 3.0, day.mean());
        day.found(2222);
        check.same("without one that had none yet", 49 / 3.0, day.mean());
        day.contest();
        check.same("the new band is out", 1, day.band(3, 8));
        check.same("17, 16, 16 and 0 of one that was out", 49 / 4.0, day.mean());
        day.absent(0, 1);
        day.seat(0, 0, -1);
        check.same("of the latest contest, not of the next one", 49 / 4.0, day.mean());
    }

    private static void digestWrapsAround() {
        // The first numbers are 0 for a new object; 3 and 1 for each instrument.
        List<Long> numbers = new ArrayList<>();
        for (int i = 0; i < 7; i++) {
            numbers.add(0L);
        }
        for (int i = 0; i < 4; i++) {
            numbers.add(3L);
            numbers.add(1L);
        }
        check.holds("613 * 31 and so on is beyond 64 bits", exact(numbers).bitLength() > 64);
        check.same("the digest of a new object", exact(numbers).longValue(), new BandDay().digest());
        BandDay day = season();
        boolean less = false;
        boolean more = false;
        for (int i = 0; i < 20; i++) {
            day.contest();
            check.same("the digest behind contest " + i, exact(told(day)).longValue(), day.digest());
            less |= day.digest() < 0;
            more |= day.digest() > 0;
        }
        check.holds("digests below 0 and above it", less && more);
    }

    /** The digest of these numbers, without a wrap-around. */
    private static BigInteger exact(List<Long> numbers) {
        BigInteger d = BigInteger.valueOf(613);
        for (long x : numbers) {
            d = d.multiply(BigInteger.valueOf(31)).add(BigInteger.valueOf(x));
        }
        return d;
    }

    /** What the season that is made above tells of itself, in the order of the digest. */
    private static List<Long> told(BandDay day) {
        List<Long> numbers = new ArrayList<>();
        for (int what = 0; what < 7; what++) {
            numbers.add((long) day.count(what));
        }
        for (int instrument = 0; instrument < 4; instrument++) {
            numbers.add(3L);
            numbers.add(instrument == 2 ? 3L : 1L);
        }
        for (int player = 0; player < day.count(1); player++) {
            for (int what = 0; what < 10; what++) {
                numbers.add((long) day.player(player, what));
            }
        }
        for (int band = 0; band < day.count(2); band++) {
            for (int what = 0; what < 9; what++) {
                numbers.add((long) day.band(band, what));
            }
            for (int seat = 0; seat < day.band(band, 0); seat++) {
                for (int what = 0; what < 3; what++) {
                    numbers.add((long) day.chair(band, seat, what));
                }
            }
        }
        return numbers;
    }

    private static void digestOfEachNumber() {
        // One number more, at the place that the order of the digest gives it, by powers of 31 from the end.
        BandDay day = Days.players(5);
        day.found(1);
        long before = day.digest();
        // Behind the absences come 4 of the player, and 9 and 3 of the band.
        day.absent(0, 1);
        check.same("absent from 1: of the player, and of all", before + power(16) + power(32), day.digest());
        day.absent(0, 0);
        // Behind the weight of the bass come 10, 9 and 3; ahead of it is how hard it is.
        day.setTaste(3, 2);
        check.same("the weight of the bass", before + power(22), day.digest());
        day.setPiece(3, 4);
        check.same("how hard it is for the bass", before + power(22) + power(23), day.digest());
        day.setTaste(3, 1);
        day.setPiece(3, 3);
        day.setTaste(0, 2);
        check.same("the weight of the cornet", before + power(28), day.digest());
    }

    private static long power(int times) {
        long p = 1;
        for (int i = 0; i < times; i++) {
            p *= 31;
        }
        return p;
    }
}
