/** The greatest season, 24 players in 6 bands of 8 seats, for some 500 calls: none of them throws. */
final class FullSeasonTest {
    private static final Check check = new Check();

    public static void main(String[] args) {
        BandDay day = new BandDay();
        PlainModel model = new PlainModel();
        for (int i = 0; i < 24; i++) {
            int skill = i % 10;
            check.same("player " + i, model.addPlayer(skill, 9 - skill, i % 7, i % 3),
                    day.addPlayer(skill, 9 - skill, i % 7, i % 3));
        }
        for (int i = 0; i < 6; i++) {
            check.same("band " + i, model.found(12341234), day.found(12341234));
        }
        for (int i = 0; i < 24; i++) {
            check.same("member " + i, model.seat(i % 6, i / 6 * 2, i), day.seat(i % 6, i / 6 * 2, i));
        }
        int calls = 54;
        for (int round = 0; calls + 20 <= 512; round++) {
            calls += round(day, model, round);
        }
        check.end();
    }

    /** The methods, one after the other; it tells how many calls that were. */
    private static int round(BandDay day, PlainModel model, int round) {
        int band = round % 6;
        int player = round * 5 % 24;
        check.same("absent", model.absent(player, 2), day.absent(player, 2));
        check.same("rehearse", model.rehearse(band), day.rehearse(band));
        check.same("change", model.change(band, round % 8, 7), day.change(band, round % 8, 7));
        check.same("setPiece", model.setPiece(round % 4, round % 10), day.setPiece(round % 4, round % 10));
        check.same("setTaste", model.setTaste(round % 4, 1 + round % 5), day.setTaste(round % 4, 1 + round % 5));
        check.same("advise", model.advise(band), day.advise(band));
        check.same("foresee", model.foresee(band, 20, round % 4), day.foresee(band, 20, round % 4));
        check.same("contest", model.contest(), day.contest());
        check.same("seat", model.seat(5, round % 8, -1), day.seat(5, round % 8, -1));
        check.same("free", model.free(round % 4), day.free(round % 4));
        check.same("player", model.player(23, round % 10), day.player(23, round % 10));
        check.same("band", model.band(5, round % 9), day.band(5, round % 9));
        check.same("chair", model.chair(5, 7, round % 3), day.chair(5, 7, round % 3));
        check.same("rank", model.rank(5), day.rank(5));
        check.same("count", model.count(round % 7), day.count(round % 7));
        check.same("mean", model.mean(), day.mean());
        check.same("digest", model.digest(), day.digest());
        return 17;
    }
}
