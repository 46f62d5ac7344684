/** Promises 1, 2, 6, 10 and 18: a new object, addPlayer, absent, player, free. */
final class PlayersTest {
    private static final Check check = new Check();

    public static void main(String[] args) {
        newObject();
        addPlayer();
        addPlayerRefused();
        absent();
        player();
        free();
        check.end();
    }

    private static void newObject() {
        BandDay day = new BandDay();
        for (int what = 0; what <= 6; what++) {
            check.same("new: count(" + what + ")", 0, day.count(what));
        }
        for (int instrument = 0; instrument < 4; instrument++) {
            check.same("new: free(" + instrument + ")", -1, day.free(instrument));
            check.same("new: piece " + instrument, 3, day.setPiece(instrument, 3));
            check.same("new: taste " + instrument, 1, day.setTaste(instrument, 1));
        }
        check.same("new: mean()", 0.0, day.mean());
        check.noState("new: contest()", day, day::contest);
        check.noIndex("new: rank(0)", day, () -> day.rank(0));
        check.noIndex("new: player(0, 0)", day, () -> day.player(0, 0));
        check.noIndex("new: band(0, 0)", day, () -> day.band(0, 0));
        BandDay other = new BandDay();
        day.addPlayer(1, 2, 3, 4);
        check.same("another object stays new", 0, other.count(1));
    }

    private static void addPlayer() {
        BandDay day = new BandDay();
        check.same("the first player", 0, day.addPlayer(9, 0, 5, 2));
        check.same("the second player", 1, day.addPlayer(0, 9, 0, 9));
        int[] due = {9, 0, 5, 2, 0, 0, -1, -1, 0, 0};
        for (int what = 0; what < due.length; what++) {
            check.same("player(0, " + what + ")", due[what], day.player(0, what));
        }
        check.same("bass of the second", 9, day.player(1, 3));
        check.same("two players", 2, day.count(1));
    }

    private static void addPlayerRefused() {
        BandDay day = new BandDay();
        for (int wrong : new int[] {-1, 10, Integer.MIN_VALUE, Integer.MAX_VALUE}) {
            check.noArgument("cornet " + wrong, day, () -> day.addPlayer(wrong, 0, 0, 0));
            check.noArgument("horn " + wrong, day, () -> day.addPlayer(0, wrong, 0, 0));
            check.noArgument("trombone " + wrong, day, () -> day.addPlayer(0, 0, wrong, 0));
            check.noArgument("bass " + wrong, day, () -> day.addPlayer(0, 0, 0, wrong));
        }
        for (int i = 0; i < 24; i++) {
            check.same("player " + i, i, day.addPlayer(i % 10, 1, 2, 3));
        }
        check.noState("a 25th player", day, () -> day.addPlayer(0, 0, 0, 0));
        check.noArgument("a 25th player without skill", day, () -> day.addPlayer(0, 0, 0, 10));
        check.same("the last player's cornet", 3, day.player(23, 0));
    }

    private static void absent() {
        BandDay day = new BandDay();
        day.addPlayer(1, 1, 1, 1);
        day.addPlayer(2, 2, 2, 2);
        check.same("absent from none before", 0, day.absent(0, 20));
        check.same("absent from 20 before", 20, day.absent(0, 3));
        check.same("from how many", 3, day.player(0, 5));
        check.same("the other one is there", 0, day.player(1, 5));
        check.same("one absent", 1, day.count(4));
        check.same("back again", 3, day.absent(0, 0));
        check.same("none absent", 0, day.count(4));
        for (int wrong : new int[] {-1, 2, 24, Integer.MIN_VALUE, Integer.MAX_VALUE}) {
            check.noIndex("absent(" + wrong + ", 1)", day, () -> day.absent(wrong, 1));
            check.noIndex("absent(" + wrong + ", 21)", day, () -> day.absent(wrong, 21));
        }
        for (int wrong : new int[] {-1, 21, Integer.MIN_VALUE, Integer.MAX_VALUE}) {
            check.noArgument("absent(0, " + wrong + ")", day, () -> day.absent(0, wrong));
        }
    }

    private static void player() {
        BandDay day = new BandDay();
        day.addPlayer(4, 3, 2, 1);
        day.addPlayer(5, 5, 5, 5);
        day.found(1);
        day.found(12);
        day.seat(1, 1, 0);
        day.absent(0, 2);
        check.same("the band of a member", 1, day.player(0, 6));
        check.same("the seat of a member", 1, day.player(0, 7));
        day.contest();
        int[] member = {4, 3, 2, 1, 0, 1, 1, 1, 0, 0};
        int[] deputy = {5, 5, 5, 5, 30, 0, -1, -1, 2, 2};
        for (int what = 0; what < 10; what++) {
            check.same("absent member, player(0, " + what + ")", member[what], day.player(0, what));
            check.same("deputy twice, player(1, " + what + ")", deputy[what], day.player(1, what));
        }
        day.absent(0, 0);
        day.contest();
        check.same("sat on the own seat", 1, day.player(0, 8));
        check.same("which is not as a deputy", 0, day.player(0, 9));
        for (int wrong : new int[] {-1, 10, Integer.MIN_VALUE, Integer.MAX_VALUE}) {
            check.noIndex("player(0, " + wrong + ")", day, () -> day.player(0, wrong));
        }
        for (int wrong : new int[] {-1, 2, 24, Integer.MIN_VALUE, Integer.MAX_VALUE}) {
            check.noIndex("player(" + wrong + ", 0)", day, () -> day.player(wrong, 0));
        }
    }

    private static void free() {
        BandDay day = new BandDay();
        day.addPlayer(3, 0, 9, 0);
        day.addPlayer(7, 0, 1, 0);
        day.addPlayer(7, 0, 1, 0);
        day.found(11);
        check.same("the greatest skill, the smallest number", 1, day.free(0));
        check.same("also with no skill", 0, day.free(1));
        check.same("another instrument", 0, day.free(2));
        day.seat(0, 0, 1);
        check.same("a member is not free", 2, day.free(0));
        day.absent(2, 1);
        check.same("one who is absent is not free", 0, day.free(0));
        day.seat(0, 1, 0);
        check.same("none is free", -1, day.free(0));
        day.seat(0, 0, -1);
        check.same("free again", 1, day.free(3));
        for (int wrong : new int[] {-1, 4, Integer.MIN_VALUE, Integer.MAX_VALUE}) {
            check.noIndex("free(" + wrong + ")", day, () -> day.free(wrong));
        }
    }
}
