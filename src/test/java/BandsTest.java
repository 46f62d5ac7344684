/** Promises 3, 4, 5, 7, 8, 9, 11 and 12: found, seat, change, rehearse, setPiece, setTaste, band, chair. */
final class BandsTest {
    private static final Check check = new Check();
    private static final int[] NO_NUMBERS = {-1, 24, Integer.MIN_VALUE, Integer.MAX_VALUE};

    public static void main(String[] args) {
        found();
        foundRefused();
        seat();
        seatMoves();
        seatRefused();
        change();
        rehearse();
        setPiece();
        setTaste();
        bandAhead();
        bandAndChairRefused();
        check.end();
    }

    private static void found() {
        BandDay day = new BandDay();
        check.same("the first band", 0, day.found(1234));
        check.same("the second band", 1, day.found(44332211));
        check.same("the third band", 2, day.found(3));
        check.same("its seats", 4, day.band(0, 0));
        check.same("8 seats", 8, day.band(1, 0));
        check.same("1 seat", 1, day.band(2, 0));
        int[] due = {3, 3, 2, 2, 1, 1, 0, 0};
        for (int seat = 0; seat < 8; seat++) {
            check.same("instrument of seat " + seat, due[seat], day.chair(1, seat, 0));
        }
        check.same("seat 0 is the highest digit", 0, day.chair(0, 0, 0));
        check.same("seat 3 is the lowest digit", 3, day.chair(0, 3, 0));
        check.same("three bands", 3, day.count(2));
    }

    private static void foundRefused() {
        BandDay day = new BandDay();
        int[] wrongs = {0, -1, 5, 10, 101, 15, 51, 1235, 111111111, 123412341, 91111111, -1234,
            Integer.MAX_VALUE, Integer.MIN_VALUE};
        for (int wrong : wrongs) {
            check.noArgument("found(" + wrong + ")", day, () -> day.found(wrong));
        }
        for (int i = 0; i < 6; i++) {
            check.same("band " + i, i, day.found(11111111 * (i % 4 + 1)));
        }
        check.noState("a 7th band", day, () -> day.found(1));
        check.noArgument("a 7th band without seats", day, () -> day.found(0));
    }

    private static BandDay twoBands() {
        BandDay day = new BandDay();
        for (int i = 0; i < 5; i++) {
            day.addPlayer(i, i, i, i);
        }
        day.found(123);
        day.found(44);
        return day;
    }

    private static void seat() {
        BandDay day = twoBands();
        check.same("nobody was on it", -1, day.seat(0, 1, 3));
        check.same("the member", 3, day.chair(0, 1, 1));
        check.same("the band of the member", 0, day.player(3, 6));
        check.same("the seat of the member", 1, day.player(3, 7));
        check.same("the members of the band", 1, day.band(0, 1));
        check.same("members in all", 1, day.count(3));
        check.same("the same player again", 3, day.seat(0, 1, 3));
        check.same("is still on it", 3, day.chair(0, 1, 1));
        check.same("and in the band", 0, day.player(3, 6));
        check.same("nobody sat there yet", -1, day.chair(0, 1, 2));
        check.same("the one who leaves for nobody", 3, day.seat(0, 1, -1));
        check.same("nobody is on it", -1, day.chair(0, 1, 1));
        check.same("no band", -1, day.player(3, 6));
        check.same("no seat", -1, day.player(3, 7));
        check.same("nobody for nobody", -1, day.seat(0, 1, -1));
        check.same("no members", 0, day.count(3));
    }

    private static void seatMoves() {
        BandDay day = twoBands();
        day.seat(0, 0, 2);
        check.same("to a seat of the same band", -1, day.seat(0, 2, 2));
        check.same("the old seat is left", -1, day.chair(0, 0, 1));
        check.same("the new seat is taken", 2, day.chair(0, 2, 1));
        check.same("to a seat of another band", -1, day.seat(1, 1, 2));
        check.same("the seat in the other band is left", -1, day.chair(0, 2, 1));
        check.same("the band now", 1, day.player(2, 6));
        check.same("the seat now", 1, day.player(2, 7));
        check.same("one member all the while", 1, day.count(3));
        day.absent(2, 1);
        check.same("one who is absent is a member, too", 2, day.seat(1, 1, 2));
    }

    private static void seatRefused() {
        BandDay day = twoBands();
        day.seat(0, 0, 0);
        day.seat(0, 1, 1);
        check.noState("the seat of another member", day, () -> day.seat(0, 0, 2));
        check.noState("of another member, for a member", day, () -> day.seat(0, 0, 1));
        for (int wrong : NO_NUMBERS) {
            check.noIndex("seat(" + wrong + ", 0, 0)", day, () -> day.seat(wrong, 0, 0));
            check.noIndex("seat(0, " + wrong + ", 0)", day, () -> day.seat(0, wrong, 0));
        }
        check.noIndex("no third band", day, () -> day.seat(2, 0, 4));
        check.noIndex("no fourth seat", day, () -> day.seat(0, 3, 4));
        check.noIndex("no third seat", day, () -> day.seat(1, 2, -1));
        check.noIndex("no sixth player, also on a taken seat", day, () -> day.seat(0, 0, 5));
        check.noIndex("no player -2", day, () -> day.seat(0, 0, -2));
        check.noIndex("no least player", day, () -> day.seat(0, 2, Integer.MIN_VALUE));
        check.noIndex("no greatest player", day, () -> day.seat(0, 2, Integer.MAX_VALUE));
    }

    private static void change() {
        BandDay day = twoBands();
        day.seat(0, 0, 4);
        day.seat(0, 1, 3);
        check.same("the member on a then", 3, day.change(0, 0, 1));
        check.same("the member on b then", 4, day.chair(0, 1, 1));
        check.same("knows the seat", 1, day.player(4, 7));
        check.same("the other one, too", 0, day.player(3, 7));
        check.same("with nobody", -1, day.change(0, 0, 2));
        check.same("the member on b", 3, day.chair(0, 2, 1));
        check.same("knows the seat, too", 2, day.player(3, 7));
        check.same("and the band", 0, day.player(3, 6));
        check.same("back from nobody", 3, day.change(0, 0, 2));
        check.same("nobody is left there", -1, day.chair(0, 2, 1));
        check.same("one seat with itself", 4, day.change(0, 1, 1));
        check.same("which changes nothing", 4, day.chair(0, 1, 1));
        check.same("an empty seat with itself", -1, day.change(1, 1, 1));
        check.same("nobody with nobody", -1, day.change(1, 0, 1));
        for (int wrong : NO_NUMBERS) {
            check.noIndex("change(" + wrong + ", 0, 0)", day, () -> day.change(wrong, 0, 0));
            check.noIndex("change(0, " + wrong + ", 0)", day, () -> day.change(0, wrong, 0));
            check.noIndex("change(0, 0, " + wrong + ")", day, () -> day.change(0, 0, wrong));
        }
        check.noIndex("no third band", day, () -> day.change(2, 0, 0));
        check.noIndex("no fourth seat", day, () -> day.change(0, 3, 0));
        check.noIndex("no third seat", day, () -> day.change(1, 0, 2));
    }

    private static void rehearse() {
        BandDay day = twoBands();
        day.seat(0, 0, 0);
        day.seat(0, 2, 1);
        day.seat(1, 0, 2);
        day.absent(1, 1);
        check.same("its spirit then", 3, day.rehearse(0));
        check.same("its spirit", 3, day.band(0, 2));
        check.same("the other band's", 0, day.band(1, 2));
        check.same("a member is tired", 5, day.player(0, 4));
        check.same("not one who is absent", 0, day.player(1, 4));
        check.same("not a member of the other band", 0, day.player(2, 4));
        day.rehearse(1);
        check.same("others do not rest", 5, day.player(0, 4));
        for (int i = 2; i <= 16; i++) {
            check.same("rehearsal " + i, 3 * i, day.rehearse(0));
        }
        check.same("spirit is 50 at most", 50, day.rehearse(0));
        check.same("also behind that", 50, day.rehearse(0));
        check.same("lips after 18 rehearsals", 90, day.player(0, 4));
        day.rehearse(0);
        day.rehearse(0);
        day.rehearse(0);
        check.same("lips are 100 tired at most", 100, day.player(0, 4));
        for (int wrong : NO_NUMBERS) {
            check.noIndex("rehearse(" + wrong + ")", day, () -> day.rehearse(wrong));
        }
        check.noIndex("rehearse(2)", day, () -> day.rehearse(2));
    }

    private static void setPiece() {
        BandDay day = new BandDay();
        for (int instrument = 0; instrument < 4; instrument++) {
            int one = instrument;
            check.same("3 hard at first", 3, day.setPiece(one, one));
            check.same("as it was set", one, day.setPiece(one, 9));
            check.same("9 hard", 9, day.setPiece(one, 0));
            check.same("0 hard", 0, day.setPiece(one, 5));
            check.noArgument("10 hard", day, () -> day.setPiece(one, 10));
            check.noArgument("-1 hard", day, () -> day.setPiece(one, -1));
        }
        for (int wrong : new int[] {-1, 4, Integer.MIN_VALUE, Integer.MAX_VALUE}) {
            check.noIndex("setPiece(" + wrong + ", 5)", day, () -> day.setPiece(wrong, 5));
            check.noIndex("setPiece(" + wrong + ", 10)", day, () -> day.setPiece(wrong, 10));
            if (wrong != 4) {
                check.noArgument("setPiece(0, " + wrong + ")", day, () -> day.setPiece(0, wrong));
            }
        }
    }

    private static void setTaste() {
        BandDay day = new BandDay();
        for (int instrument = 0; instrument < 4; instrument++) {
            int one = instrument;
            check.same("weight 1 at first", 1, day.setTaste(one, one + 1));
            check.same("as it was set", one + 1, day.setTaste(one, 5));
            check.same("weight 5", 5, day.setTaste(one, 1));
            check.noArgument("weight 6", day, () -> day.setTaste(one, 6));
            check.noArgument("weight 0", day, () -> day.setTaste(one, 0));
        }
        for (int wrong : new int[] {-1, 4, Integer.MIN_VALUE, Integer.MAX_VALUE}) {
            check.noIndex("setTaste(" + wrong + ", 5)", day, () -> day.setTaste(wrong, 5));
            check.noIndex("setTaste(" + wrong + ", 0)", day, () -> day.setTaste(wrong, 0));
            if (wrong != 4) {
                check.noArgument("setTaste(0, " + wrong + ")", day, () -> day.setTaste(0, wrong));
            }
        }
    }

    private static void bandAhead() {
        BandDay day = twoBands();
        int[] due = {3, 0, 0, -1, -1, -1, -1, 0, 0};
        for (int what = 0; what < due.length; what++) {
            check.same("ahead of a contest, band(0, " + what + ")", due[what], day.band(0, what));
        }
        day.contest();
        check.same("a band founded behind a contest", 2, day.found(11));
        for (int what = 3; what <= 6; what++) {
            check.same("has none yet, band(2, " + what + ")", -1, day.band(2, what));
        }
        check.same("nobody sat there yet", -1, day.chair(2, 0, 2));
    }

    private static void bandAndChairRefused() {
        BandDay day = twoBands();
        for (int wrong : NO_NUMBERS) {
            check.noIndex("band(" + wrong + ", 0)", day, () -> day.band(wrong, 0));
            check.noIndex("band(0, " + wrong + ")", day, () -> day.band(0, wrong));
            check.noIndex("chair(" + wrong + ", 0, 0)", day, () -> day.chair(wrong, 0, 0));
            check.noIndex("chair(0, " + wrong + ", 0)", day, () -> day.chair(0, wrong, 0));
            check.noIndex("chair(0, 0, " + wrong + ")", day, () -> day.chair(0, 0, wrong));
        }
        check.noIndex("band(2, 0)", day, () -> day.band(2, 0));
        check.noIndex("band(0, 9)", day, () -> day.band(0, 9));
        check.noIndex("chair(2, 0, 0)", day, () -> day.chair(2, 0, 0));
        check.noIndex("chair(1, 2, 0)", day, () -> day.chair(1, 2, 0));
        check.noIndex("chair(0, 0, 3)", day, () -> day.chair(0, 0, 3));
    }
}
