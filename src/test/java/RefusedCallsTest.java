/**
 * Each "Throws" row of the promises 2 to 18, and "If several exceptions apply, the one that is named first is thrown":
 * the last value that is allowed, the one beside it that is not, and the order of two exceptions.
 * That a refused call changes nothing is looked at by Check.refused, by the digest, and at the end by a twin.
 */
final class RefusedCallsTest {
    private static final Check check = new Check();

    public static void main(String[] args) {
        skillsOfAddPlayer();
        roomOfAddPlayer();
        digitsOfFound();
        roomOfFound();
        placesOfSeat();
        playersOfSeat();
        anotherMemberOfSeat();
        change();
        absent();
        rehearse();
        setPiece();
        setTaste();
        player();
        band();
        chair();
        contest();
        rank();
        count();
        foresee();
        foreseeOrder();
        advise();
        free();
        refusedInAnEmptySeason();
        refusedInAFullSeason();
        goesOnAsIfNothingWasRefused();
        check.end();
    }

    /** The values just below and just above what is allowed, and the farthest ones. */
    private static int[] beside(int least, int most) {
        return new int[] {least - 1, most + 1, Integer.MIN_VALUE, Integer.MAX_VALUE};
    }

    /** 3 players; the band 0 of 3 seats with the members 0 and 1, the band 1 of 2 seats with nobody. */
    private static BandDay day() {
        BandDay day = Days.players(4, 5, 6);
        day.found(123);
        day.found(44);
        day.seat(0, 0, 0);
        day.seat(0, 1, 1);
        return day;
    }

    private static void skillsOfAddPlayer() {
        BandDay day = new BandDay();
        check.same("skills of 0", 0, day.addPlayer(0, 0, 0, 0));
        check.same("skills of 9", 1, day.addPlayer(9, 9, 9, 9));
        for (int position = 0; position < 4; position++) {
            for (int wrong : beside(0, 9)) {
                int[] s = {9, 0, 9, 0};
                s[position] = wrong;
                check.noArgument("skill " + position + " is " + wrong, day,
                        () -> day.addPlayer(s[0], s[1], s[2], s[3]));
            }
        }
        check.same("still two players", 2, day.count(1));
    }

    private static void roomOfAddPlayer() {
        BandDay day = Days.players(new int[23]);
        check.same("the 24th player", 23, day.addPlayer(1, 2, 3, 4));
        check.noState("a 25th player", day, () -> day.addPlayer(1, 2, 3, 4));
        for (int wrong : beside(0, 9)) {
            check.noArgument("a 25th player, cornet " + wrong, day, () -> day.addPlayer(wrong, 0, 0, 0));
            check.noArgument("a 25th player, horn " + wrong, day, () -> day.addPlayer(0, wrong, 0, 0));
            check.noArgument("a 25th player, trombone " + wrong, day, () -> day.addPlayer(0, 0, wrong, 0));
            check.noArgument("a 25th player, bass " + wrong, day, () -> day.addPlayer(0, 0, 0, wrong));
        }
        check.same("still 24 players", 24, day.count(1));
    }

    private static void digitsOfFound() {
        int[] allowed = {1, 4, 11, 44, 11111111, 44444444, 41111114};
        for (int seats : allowed) {
            check.same("found(" + seats + ")", 0, new BandDay().found(seats));
        }
        BandDay day = new BandDay();
        for (int wrong : new int[] {0, 5, 9, -1, -4, 111111111, 444444444, 1111111111,
            Integer.MIN_VALUE, Integer.MAX_VALUE}) {
            check.noArgument("found(" + wrong + ")", day, () -> day.found(wrong));
        }
        int place = 1;
        for (int digit = 0; digit < 8; digit++) {
            int five = 44444444 + place;
            check.noArgument("found(" + five + ")", day, () -> day.found(five));
            // A 0 ahead of all other digits is not written: there it is a number of 7 digits.
            if (digit < 7) {
                int zero = 11111111 - place;
                check.noArgument("found(" + zero + ")", day, () -> day.found(zero));
            }
            place *= 10;
        }
        check.same("7 digits behind a 0 that is not written", 0, day.found(11111111 - 10000000));
        check.same("7 seats", 7, day.band(0, 0));
    }

    private static void roomOfFound() {
        BandDay day = new BandDay();
        for (int band = 0; band < 5; band++) {
            day.found(1);
        }
        check.same("the 6th band", 5, day.found(1));
        check.noState("a 7th band", day, () -> day.found(1));
        for (int wrong : new int[] {0, -1, 5, 111111111}) {
            check.noArgument("a 7th band of " + wrong, day, () -> day.found(wrong));
        }
        check.same("still 6 bands", 6, day.count(2));
    }

    private static void placesOfSeat() {
        BandDay day = day();
        for (int wrong : beside(0, 1)) {
            check.noIndex("seat(" + wrong + ", 0, 2)", day, () -> day.seat(wrong, 0, 2));
            check.noIndex("seat(" + wrong + ", 0, -1)", day, () -> day.seat(wrong, 0, -1));
        }
        for (int wrong : beside(0, 2)) {
            check.noIndex("seat(0, " + wrong + ", 2)", day, () -> day.seat(0, wrong, 2));
        }
        for (int wrong : beside(0, 1)) {
            check.noIndex("seat(1, " + wrong + ", -1)", day, () -> day.seat(1, wrong, -1));
        }
        check.same("the last seat of the last band", -1, day.seat(1, 1, 2));
        check.same("the last seat of the first band", -1, day.seat(0, 2, 2));
        check.same("the first seat of the last band", -1, day.seat(1, 0, 2));
    }

    private static void playersOfSeat() {
        BandDay day = day();
        for (int wrong : beside(-1, 2)) {
            check.noIndex("seat(0, 2, " + wrong + ")", day, () -> day.seat(0, 2, wrong));
        }
        check.same("the last player", -1, day.seat(0, 2, 2));
        check.same("-1 is nobody", 2, day.seat(0, 2, -1));
        check.same("the first player", -1, day.seat(0, 2, 0));
    }

    private static void anotherMemberOfSeat() {
        BandDay day = day();
        check.noState("a seat of another member, for one in no band", day, () -> day.seat(0, 0, 2));
        check.noState("a seat of another member, for a member", day, () -> day.seat(0, 0, 1));
        day.absent(0, 1);
        check.noState("a seat of another member who is absent", day, () -> day.seat(0, 0, 2));
        for (int wrong : beside(-1, 2)) {
            check.noIndex("no such player, and another member", day, () -> day.seat(0, 0, wrong));
        }
        check.same("the refused one keeps the seat", 1, day.player(1, 7));
        check.same("the same member is not another one", 0, day.seat(0, 0, 0));
        check.same("nobody may be put on a taken seat", 0, day.seat(0, 0, -1));
        check.same("then another one may", -1, day.seat(0, 0, 2));
    }

    private static void change() {
        BandDay day = day();
        for (int wrong : beside(0, 1)) {
            check.noIndex("change(" + wrong + ", 0, 1)", day, () -> day.change(wrong, 0, 1));
            check.noIndex("change(1, " + wrong + ", 0)", day, () -> day.change(1, wrong, 0));
            check.noIndex("change(1, 0, " + wrong + ")", day, () -> day.change(1, 0, wrong));
        }
        for (int wrong : beside(0, 2)) {
            check.noIndex("change(0, " + wrong + ", 0)", day, () -> day.change(0, wrong, 0));
            check.noIndex("change(0, 0, " + wrong + ")", day, () -> day.change(0, 0, wrong));
            check.noIndex("change(0, " + wrong + ", the same)", day, () -> day.change(0, wrong, wrong));
        }
        check.same("the first and the last seat", -1, day.change(0, 0, 2));
        check.same("the last and the first seat of the last band", -1, day.change(1, 1, 0));
    }

    private static void absent() {
        BandDay day = day();
        for (int wrong : beside(0, 2)) {
            check.noIndex("absent(" + wrong + ", 1)", day, () -> day.absent(wrong, 1));
            check.noIndex("absent(" + wrong + ", -1)", day, () -> day.absent(wrong, -1));
            check.noIndex("absent(" + wrong + ", 21)", day, () -> day.absent(wrong, 21));
        }
        for (int wrong : beside(0, 20)) {
            check.noArgument("absent(2, " + wrong + ")", day, () -> day.absent(2, wrong));
        }
        check.same("from 20", 0, day.absent(2, 20));
        for (int wrong : beside(0, 20)) {
            check.noArgument("one absent from 20, absent(2, " + wrong + ")", day, () -> day.absent(2, wrong));
        }
        check.same("from 0", 20, day.absent(2, 0));
        check.same("the first player", 0, day.absent(0, 20));
    }

    private static void rehearse() {
        BandDay day = day();
        for (int wrong : beside(0, 1)) {
            check.noIndex("rehearse(" + wrong + ")", day, () -> day.rehearse(wrong));
        }
        check.same("the first band", 3, day.rehearse(0));
        check.same("the last band", 3, day.rehearse(1));
    }

    private static void setPiece() {
        BandDay day = day();
        for (int wrong : beside(0, 3)) {
            check.noIndex("setPiece(" + wrong + ", 0)", day, () -> day.setPiece(wrong, 0));
            check.noIndex("setPiece(" + wrong + ", -1)", day, () -> day.setPiece(wrong, -1));
            check.noIndex("setPiece(" + wrong + ", 10)", day, () -> day.setPiece(wrong, 10));
        }
        for (int instrument = 0; instrument < 4; instrument++) {
            int one = instrument;
            check.same("0 hard", 3, day.setPiece(one, 0));
            check.same("9 hard", 0, day.setPiece(one, 9));
            for (int wrong : beside(0, 9)) {
                check.noArgument("setPiece(" + one + ", " + wrong + ")", day, () -> day.setPiece(one, wrong));
            }
            check.same("still 9 hard", 9, day.setPiece(one, 3));
        }
    }

    private static void setTaste() {
        BandDay day = day();
        for (int wrong : beside(0, 3)) {
            check.noIndex("setTaste(" + wrong + ", 1)", day, () -> day.setTaste(wrong, 1));
            check.noIndex("setTaste(" + wrong + ", 0)", day, () -> day.setTaste(wrong, 0));
            check.noIndex("setTaste(" + wrong + ", 6)", day, () -> day.setTaste(wrong, 6));
        }
        for (int instrument = 0; instrument < 4; instrument++) {
            int one = instrument;
            check.same("weight 5", 1, day.setTaste(one, 5));
            for (int wrong : beside(1, 5)) {
                check.noArgument("setTaste(" + one + ", " + wrong + ")", day, () -> day.setTaste(one, wrong));
            }
            check.same("weight 1", 5, day.setTaste(one, 1));
        }
    }

    private static void player() {
        BandDay day = day();
        for (int wrong : beside(0, 2)) {
            check.noIndex("player(" + wrong + ", 0)", day, () -> day.player(wrong, 0));
        }
        for (int wrong : beside(0, 9)) {
            check.noIndex("player(2, " + wrong + ")", day, () -> day.player(2, wrong));
        }
        check.same("the first of the first", 4, day.player(0, 0));
        check.same("the last of the last", 0, day.player(2, 9));
    }

    private static void band() {
        BandDay day = day();
        for (int wrong : beside(0, 1)) {
            check.noIndex("band(" + wrong + ", 0)", day, () -> day.band(wrong, 0));
        }
        for (int wrong : beside(0, 8)) {
            check.noIndex("band(1, " + wrong + ")", day, () -> day.band(1, wrong));
        }
        check.same("the first of the first", 3, day.band(0, 0));
        check.same("the last of the last", 0, day.band(1, 8));
    }

    private static void chair() {
        BandDay day = day();
        for (int wrong : beside(0, 1)) {
            check.noIndex("chair(" + wrong + ", 0, 0)", day, () -> day.chair(wrong, 0, 0));
            check.noIndex("chair(1, " + wrong + ", 0)", day, () -> day.chair(1, wrong, 0));
        }
        for (int wrong : beside(0, 2)) {
            check.noIndex("chair(0, " + wrong + ", 0)", day, () -> day.chair(0, wrong, 0));
            check.noIndex("chair(0, 0, " + wrong + ")", day, () -> day.chair(0, 0, wrong));
        }
        check.same("the first of the first", 0, day.chair(0, 0, 0));
        check.same("the last of the last", -1, day.chair(1, 1, 2));
    }

    private static void contest() {
        BandDay day = Days.players(5, 5);
        day.absent(1, 3);
        check.noState("a contest without bands", day, day::contest);
        check.same("was none", 0, day.count(0));
        check.same("nobody is absent for less", 3, day.player(1, 5));
        day.found(1);
        check.same("a contest of one band", 0, day.contest());
    }

    private static void rank() {
        BandDay day = new BandDay();
        for (int bands = 0; bands < 6; bands++) {
            for (int wrong : beside(0, bands - 1)) {
                check.noIndex(bands + " bands: rank(" + wrong + ")", day, () -> day.rank(wrong));
            }
            day.found(1);
            check.same("the last place of " + (bands + 1), bands, day.rank(bands));
            check.same("the first place of " + (bands + 1), 0, day.rank(0));
        }
        check.noIndex("6 bands: rank(6)", day, () -> day.rank(6));
    }

    private static void count() {
        BandDay day = day();
        for (int wrong : beside(0, 6)) {
            check.noIndex("count(" + wrong + ")", day, () -> day.count(wrong));
        }
        check.same("the first", 0, day.count(0));
        check.same("the last", 0, day.count(6));
    }

    private static void foresee() {
        BandDay day = day();
        for (int wrong : beside(0, 1)) {
            check.noIndex("foresee(" + wrong + ", 1, 0)", day, () -> day.foresee(wrong, 1, 0));
        }
        for (int wrong : beside(0, 3)) {
            check.noIndex("foresee(0, 1, " + wrong + ")", day, () -> day.foresee(0, 1, wrong));
        }
        for (int wrong : beside(1, 20)) {
            check.noArgument("foresee(0, " + wrong + ", 0)", day, () -> day.foresee(0, wrong, 0));
            check.noArgument("foresee(1, " + wrong + ", 3)", day, () -> day.foresee(1, wrong, 3));
        }
        BandDay held = day();
        held.contest();
        check.same("1 contest", held.band(0, 3), day.foresee(0, 1, 0));
        Days.contests(held, 19);
        check.same("20 contests", held.band(1, 7), day.foresee(1, 20, 3));
    }

    private static void foreseeOrder() {
        BandDay day = day();
        for (int contests : beside(1, 20)) {
            for (int wrong : beside(0, 1)) {
                check.noIndex("foresee(" + wrong + ", " + contests + ", 0)", day,
                        () -> day.foresee(wrong, contests, 0));
            }
            for (int wrong : beside(0, 3)) {
                check.noIndex("foresee(0, " + contests + ", " + wrong + ")", day,
                        () -> day.foresee(0, contests, wrong));
            }
        }
    }

    private static void advise() {
        BandDay day = day();
        for (int wrong : beside(0, 1)) {
            check.noIndex("advise(" + wrong + ")", day, () -> day.advise(wrong));
        }
        check.same("the last band", -1, day.advise(1));
    }

    private static void free() {
        BandDay day = day();
        for (int wrong : beside(0, 3)) {
            check.noIndex("free(" + wrong + ")", day, () -> day.free(wrong));
        }
        check.same("the first instrument", 2, day.free(0));
        check.same("the last instrument", 2, day.free(3));
    }

    private static void refusedInAnEmptySeason() {
        BandDay day = new BandDay();
        check.noIndex("seat", day, () -> day.seat(0, 0, -1));
        check.noIndex("change", day, () -> day.change(0, 0, 0));
        check.noIndex("absent", day, () -> day.absent(0, 0));
        check.noIndex("rehearse", day, () -> day.rehearse(0));
        check.noIndex("player", day, () -> day.player(0, 0));
        check.noIndex("band", day, () -> day.band(0, 0));
        check.noIndex("chair", day, () -> day.chair(0, 0, 0));
        check.noState("contest", day, day::contest);
        check.noIndex("rank", day, () -> day.rank(0));
        check.noIndex("foresee", day, () -> day.foresee(0, 1, 0));
        check.noIndex("advise", day, () -> day.advise(0));
        day.found(1);
        check.noIndex("seat without players", day, () -> day.seat(0, 0, 0));
        check.same("nobody on it, nobody for it", -1, day.seat(0, 0, -1));
    }

    private static void refusedInAFullSeason() {
        BandDay day = Days.full();
        check.noState("addPlayer", day, () -> day.addPlayer(0, 0, 0, 0));
        check.noState("found", day, () -> day.found(1));
        check.noIndex("seat in a 7th band", day, () -> day.seat(6, 0, 0));
        check.noIndex("a 9th seat", day, () -> day.seat(5, 8, 23));
        check.noIndex("seat for a 25th player", day, () -> day.seat(5, 7, 24));
        check.noIndex("change in a 7th band", day, () -> day.change(6, 0, 1));
        check.noIndex("change of a 9th seat a", day, () -> day.change(5, 8, 7));
        check.noIndex("change of a 9th seat b", day, () -> day.change(5, 7, 8));
        check.noIndex("absent", day, () -> day.absent(24, 1));
        check.noIndex("rehearse", day, () -> day.rehearse(6));
        check.noIndex("player", day, () -> day.player(24, 0));
        check.noIndex("band", day, () -> day.band(6, 0));
        check.noIndex("chair in a 7th band", day, () -> day.chair(6, 0, 0));
        check.noIndex("a 9th chair", day, () -> day.chair(5, 8, 0));
        check.noIndex("rank", day, () -> day.rank(6));
        check.noIndex("foresee", day, () -> day.foresee(6, 1, 0));
        check.noIndex("advise", day, () -> day.advise(6));
        check.same("the last seat of the last band for the last player", -1, day.seat(5, 7, 23));
    }

    /** What the digest does not tell would show later: a twin without the refused calls goes on in the same way. */
    private static void goesOnAsIfNothingWasRefused() {
        BandDay day = day();
        BandDay twin = day();
        for (int round = 0; round < 6; round++) {
            day.absent(round % 3, 1);
            twin.absent(round % 3, 1);
            refuseAll(day);
            check.same("foresee behind refused calls", twin.foresee(1, 3, 0), day.foresee(1, 3, 0));
            check.same("advise behind refused calls", twin.advise(0), day.advise(0));
            check.same("contest behind refused calls", twin.contest(), day.contest());
            check.same("digest behind refused calls", twin.digest(), day.digest());
        }
    }

    private static void refuseAll(BandDay day) {
        check.noArgument("addPlayer", day, () -> day.addPlayer(9, 9, 9, 10));
        check.noArgument("found", day, () -> day.found(12345));
        check.noState("seat of another", day, () -> day.seat(0, 1, 0));
        check.noIndex("seat of none", day, () -> day.seat(0, 1, 3));
        check.noIndex("change", day, () -> day.change(0, 0, 3));
        check.noArgument("absent", day, () -> day.absent(1, 21));
        check.noIndex("rehearse", day, () -> day.rehearse(2));
        check.noArgument("setPiece", day, () -> day.setPiece(0, 10));
        check.noArgument("setTaste", day, () -> day.setTaste(0, 0));
        check.noArgument("foresee", day, () -> day.foresee(0, 21, 0));
        check.noIndex("advise", day, () -> day.advise(2));
    }
}
