/** Seasons that several tests start from. */
final class Days {
    /** Instruments are all the same for these players: one skill each. */
    static BandDay players(int... skills) {
        BandDay day = new BandDay();
        for (int skill : skills) {
            day.addPlayer(skill, skill, skill, skill);
        }
        return day;
    }

    /** A band with these seats, whose members are the players from 0 on, one on each seat. */
    static BandDay bandOf(int seats, int... skills) {
        BandDay day = players(skills);
        day.found(seats);
        for (int player = 0; player < skills.length; player++) {
            day.seat(0, player, player);
        }
        return day;
    }

    /** 24 players and 6 bands of 8 seats; the band b has the members 4b to 4b + 3, on the seats 0 to 3. */
    static BandDay full() {
        BandDay day = new BandDay();
        for (int i = 0; i < 24; i++) {
            day.addPlayer(i % 10, (i + 3) % 10, (i + 6) % 10, 9 - i % 10);
        }
        for (int band = 0; band < 6; band++) {
            day.found(12341234);
        }
        for (int i = 0; i < 24; i++) {
            day.seat(i / 4, i % 4, i);
        }
        return day;
    }

    static void contests(BandDay day, int times) {
        for (int i = 0; i < times; i++) {
            day.contest();
        }
    }

    static void rehearsals(BandDay day, int band, int times) {
        for (int i = 0; i < times; i++) {
            day.rehearse(band);
        }
    }

    /** Sets how hard the piece is for each instrument. */
    static void allHard(BandDay day, int hard) {
        for (int instrument = 0; instrument < 4; instrument++) {
            day.setPiece(instrument, hard);
        }
    }

    private Days() {
    }
}
