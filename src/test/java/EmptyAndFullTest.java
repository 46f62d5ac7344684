/** No bands, no players, a band without members; 24 players, 6 bands of 8 seats, and 512 calls. */
final class EmptyAndFullTest {
    private static final Check check = new Check();

    public static void main(String[] args) {
        nothingAtAll();
        playersWithoutBands();
        bandsWithoutPlayers();
        bandWithoutMembers();
        allPlayersAbsent();
        fullSeason();
        fullSeasonAhead();
        eachOf24PlayersInOneOf6Bands();
        deputiesForAll6Bands();
        contestsOf512Calls();
        check.end();
    }

    private static void nothingAtAll() {
        BandDay day = new BandDay();
        for (int what = 0; what <= 6; what++) {
            check.same("count(" + what + ")", 0, day.count(what));
        }
        for (int instrument = 0; instrument < 4; instrument++) {
            check.same("free(" + instrument + ")", -1, day.free(instrument));
        }
        check.same("mean()", 0.0, day.mean());
        check.noState("contest()", day, day::contest);
        check.noIndex("rank(0)", day, () -> day.rank(0));
        check.same("the digests of two new objects", new BandDay().digest(), day.digest());
    }

    private static void playersWithoutBands() {
        BandDay day = Days.players(new int[24]);
        check.same("players", 24, day.count(1));
        check.same("the first one is free", 0, day.free(0));
        check.same("mean()", 0.0, day.mean());
        check.noState("contest()", day, day::contest);
        check.noIndex("seat(0, 0, 0)", day, () -> day.seat(0, 0, 0));
        check.noIndex("foresee(0, 1, 0)", day, () -> day.foresee(0, 1, 0));
        check.noIndex("advise(0)", day, () -> day.advise(0));
    }

    private static void bandsWithoutPlayers() {
        BandDay day = new BandDay();
        for (int band = 0; band < 6; band++) {
            day.found(12341234);
        }
        check.same("spirit behind a rehearsal of nobody", 3, day.rehearse(5));
        check.same("nobody with nobody", -1, day.change(5, 0, 7));
        check.same("the advice", -1, day.advise(5));
        check.same("marks foreseen", 0, day.foresee(5, 20, 0));
        check.same("place foreseen", 5, day.foresee(5, 20, 1));
        check.same("the first place", 0, day.contest());
        for (int band = 0; band < 6; band++) {
            int[] due = {8, 0, band == 5 ? 3 : 0, 0, band, 0, 8, 0, 0};
            for (int what = 0; what <= 8; what++) {
                check.same("band(" + band + ", " + what + ")", due[what], day.band(band, what));
            }
            check.same("rank(" + band + ")", band, day.rank(band));
        }
        int[] counts = {1, 0, 6, 0, 0, 0, 48};
        for (int what = 0; what <= 6; what++) {
            check.same("count(" + what + ")", counts[what], day.count(what));
        }
        check.same("mean()", 0.0, day.mean());
    }

    private static void bandWithoutMembers() {
        BandDay day = Days.players(5, 3);
        day.found(1111);
        day.contest();
        // (10 + 5 - 3) + (10 + 3 - 3) - 5 - 5
        int[] due = {4, 0, 0, 12, 0, 2, 2, 5, 0};
        for (int what = 0; what <= 8; what++) {
            check.same("band(0, " + what + ")", due[what], day.band(0, what));
        }
        check.same("members in all", 0, day.count(3));
        check.same("nobody is tired by its rehearsal", 15, tiredBehindRehearsal(day));
        check.same("no change is better", -1, day.advise(0));
    }

    private static int tiredBehindRehearsal(BandDay day) {
        day.rehearse(0);
        return day.player(0, 4);
    }

    private static void allPlayersAbsent() {
        BandDay day = Days.full();
        for (int player = 0; player < 24; player++) {
            day.absent(player, 1);
        }
        check.same("players who are absent", 24, day.count(4));
        check.same("nobody is free", -1, day.free(0));
        day.contest();
        check.same("seats that were empty", 48, day.count(6));
        check.same("deputies", 0, day.count(5));
        check.same("all are back", 0, day.count(4));
        check.same("mean()", 0.0, day.mean());
    }

    private static void fullSeason() {
        BandDay day = Days.full();
        int[] counts = {0, 24, 6, 24, 0, 0, 0};
        for (int what = 0; what <= 6; what++) {
            check.same("count(" + what + ")", counts[what], day.count(what));
        }
        for (int player = 0; player < 24; player++) {
            check.same("cornet of " + player, player % 10, day.player(player, 0));
            check.same("bass of " + player, 9 - player % 10, day.player(player, 3));
            check.same("band of " + player, player / 4, day.player(player, 6));
            check.same("seat of " + player, player % 4, day.player(player, 7));
        }
        for (int band = 0; band < 6; band++) {
            for (int seat = 0; seat < 8; seat++) {
                check.same("instrument", seat % 4, day.chair(band, seat, 0));
                check.same("member", seat < 4 ? 4 * band + seat : -1, day.chair(band, seat, 1));
                check.same("who sat there", -1, day.chair(band, seat, 2));
            }
        }
        check.same("nobody is free", -1, day.free(0));
        check.same("the last seat is changed", -1, day.change(5, 3, 7));
        check.same("its member", 23, day.chair(5, 7, 1));
        check.same("the last player", 7, day.player(23, 7));
        check.same("is absent", 0, day.absent(23, 20));
        check.same("a 24th one who is absent", 1, day.count(4));
    }

    private static void fullSeasonAhead() {
        BandDay asked = Days.full();
        BandDay held = Days.full();
        Days.contests(held, 20);
        for (int band = 0; band < 6; band++) {
            check.same("marks of band " + band, held.band(band, 3), asked.foresee(band, 20, 0));
            check.same("place of band " + band, held.band(band, 4), asked.foresee(band, 20, 1));
            check.same("deputies of band " + band, held.band(band, 5), asked.foresee(band, 20, 2));
            check.same("points of band " + band, held.band(band, 7), asked.foresee(band, 20, 3));
        }
        check.same("contests", 20, held.count(0));
        check.same("seats of 20 contests", 20 * 48, held.count(5) + held.count(6) + ownSittings(held));
    }

    private static int ownSittings(BandDay day) {
        int own = 0;
        for (int player = 0; player < 24; player++) {
            own += day.player(player, 8) - day.player(player, 9);
        }
        return own;
    }

    private static void eachOf24PlayersInOneOf6Bands() {
        // 4 cornets a band, all of skill 9: nobody is a deputy, all marks are 4 * 17.
        BandDay day = Days.players(9, 9, 9, 9, 9, 9, 9, 9, 9, 9, 9, 9, 9, 9, 9, 9, 9, 9, 9, 9, 9, 9, 9, 9);
        for (int band = 0; band < 6; band++) {
            day.found(1111);
        }
        for (int player = 0; player < 24; player++) {
            check.same("nobody was on it", -1, day.seat(player % 6, player / 6, player));
        }
        check.same("the first place", 0, day.contest());
        for (int band = 0; band < 6; band++) {
            check.same("members of band " + band, 4, day.band(band, 1));
            check.same("marks of band " + band, 68, day.band(band, 3));
            check.same("spirit of band " + band, 4, day.band(band, 2));
        }
        for (int player = 0; player < 24; player++) {
            // Sat in the band's turn, then rested behind each band that came later.
            int bandsBehind = 5 - player % 6;
            check.same("tired", Math.max(0, 15 - 10 * bandsBehind), day.player(player, 4));
            check.same("sat once", 1, day.player(player, 8));
        }
        check.same("the mean", 68.0, day.mean());
    }

    private static void deputiesForAll6Bands() {
        // 6 bands of 8 seats without members: 24 deputies, each of them twice, are just enough for all 48 seats.
        BandDay day = Days.players(new int[24]);
        for (int band = 0; band < 6; band++) {
            day.found(11111111);
        }
        day.contest();
        check.same("deputies in all", 48, day.count(5));
        check.same("empty seats in all", 0, day.count(6));
        for (int player = 0; player < 24; player++) {
            check.same("as a deputy", 2, day.player(player, 9));
        }
        BandDay fewer = Days.players(new int[23]);
        for (int band = 0; band < 6; band++) {
            fewer.found(11111111);
        }
        fewer.contest();
        check.same("deputies of 23 players", 46, fewer.count(5));
        check.same("empty seats with 23 players", 2, fewer.count(6));
    }

    private static void contestsOf512Calls() {
        BandDay day = Days.players(new int[24]);
        for (int band = 0; band < 6; band++) {
            day.found(11111111);
        }
        int contests = 512 - 24 - 6 - 4;
        Days.contests(day, contests);
        check.same("contests", contests, day.count(0));
        check.same("all seats", 48 * contests, day.count(5) + day.count(6));
        check.same("out of each contest", contests, day.band(5, 8));
    }
}
