/** A season of brass bands in contest: players, bands, contests, and a look ahead. */
public final class BandDay {
    private static final int INSTRUMENTS = 4;
    private static final int MAX_PLAYERS = 24;
    private static final int MAX_BANDS = 6;
    private static final int MAX_SEATS = 8;
    private static final int MAX_SKILL = 9;
    private static final int MAX_HARD = 9;
    private static final int FIRST_HARD = 3;
    private static final int MAX_WEIGHT = 5;
    private static final int FIRST_WEIGHT = 1;
    private static final int MAX_TIRED = 100;
    private static final int MAX_SPIRIT = 50;
    private static final int MAX_CONTESTS = 20;
    private static final int MAX_DEPUTIES = 3;
    /** Stands for no player, no band, no seat and no answer yet. */
    private static final int NONE = -1;

    private static final int SEASON_TELLS = 7;
    private static final int PLAYER_TELLS = 10;
    private static final int BAND_TELLS = 9;
    private static final int CHAIR_TELLS = 3;
    private static final int OUTLOOK_TELLS = 4;

    private final Contest contest;
    private final Season season;
    // What is only foreseen happens in a second season, made once, so that no call makes objects.
    private final Contest trialContest;
    private final Season trial;

    public BandDay() {
        contest = new Contest();
        season = contest.season;
        trialContest = new Contest();
        trial = trialContest.season;
    }

    // ---- players and bands

    public int addPlayer(int cornet, int horn, int trombone, int bass)
            throws IllegalArgumentException, IllegalStateException {
        if (!isSkill(cornet) || !isSkill(horn) || !isSkill(trombone) || !isSkill(bass)) {
            throw new IllegalArgumentException("a skill is 0 to 9");
        }
        if (season.playerCount >= MAX_PLAYERS) {
            throw new IllegalStateException("there are 24 players");
        }
        return season.enrol(cornet, horn, trombone, bass);
    }

    public int found(int seats) throws IllegalArgumentException, IllegalStateException {
        int size = seatsIn(seats);
        if (size == 0) {
            throw new IllegalArgumentException("seats are 1 to 8 digits from 1 to 4");
        }
        if (season.bandCount >= MAX_BANDS) {
            throw new IllegalStateException("there are 6 bands");
        }
        return season.open(seats, size);
    }

    public int seat(int band, int seat, int player) throws IndexOutOfBoundsException, IllegalStateException {
        Chair chair = needChair(band, seat);
        if (player != NONE) {
            needPlayer(player);
        }
        int before = chair.member;
        if (player != NONE && before != NONE && before != player) {
            throw new IllegalStateException("another member is on the seat");
        }
        season.leave(before);
        season.leave(player);
        season.putOn(band, seat, player);
        return before;
    }

    public int change(int band, int a, int b) throws IndexOutOfBoundsException {
        Chair first = needChair(band, a);
        needChair(band, b);
        season.swapMembers(band, a, b);
        return first.member;
    }

    public int absent(int player, int contests) throws IndexOutOfBoundsException, IllegalArgumentException {
        Player one = needPlayer(player);
        if (contests < 0 || contests > MAX_CONTESTS) {
            throw new IllegalArgumentException("contests are 0 to 20");
        }
        int before = one.absences;
        one.absences = contests;
        return before;
    }

    public int rehearse(int band) throws IndexOutOfBoundsException {
        Band one = needBand(band);
        one.raiseSpirit(3);
        season.tireMembers(one, 5);
        return one.spirit;
    }

    public int setPiece(int instrument, int hard) throws IndexOutOfBoundsException, IllegalArgumentException {
        needInstrument(instrument);
        if (hard < 0 || hard > MAX_HARD) {
            throw new IllegalArgumentException("a piece is 0 to 9 hard");
        }
        int before = season.hard[instrument];
        season.hard[instrument] = hard;
        return before;
    }

    public int setTaste(int instrument, int weight) throws IndexOutOfBoundsException, IllegalArgumentException {
        needInstrument(instrument);
        if (weight < 1 || weight > MAX_WEIGHT) {
            throw new IllegalArgumentException("a weight is 1 to 5");
        }
        int before = season.weight[instrument];
        season.weight[instrument] = weight;
        return before;
    }

    public int player(int player, int what) throws IndexOutOfBoundsException {
        Player one = needPlayer(player);
        needWhat(what, PLAYER_TELLS);
        return one.tell(what);
    }

    public int band(int band, int what) throws IndexOutOfBoundsException {
        Band one = needBand(band);
        needWhat(what, BAND_TELLS);
        return one.tell(what);
    }

    public int chair(int band, int seat, int what) throws IndexOutOfBoundsException {
        Chair one = needChair(band, seat);
        needWhat(what, CHAIR_TELLS);
        return one.tell(what);
    }

    // ---- contests

    public int contest() throws IllegalStateException {
        if (season.bandCount == 0) {
            throw new IllegalStateException("there are no bands");
        }
        return contest.hold();
    }

    public int rank(int place) throws IndexOutOfBoundsException {
        if (place < 0 || place >= season.bandCount) {
            throw new IndexOutOfBoundsException("no such place");
        }
        return season.bandByPoints(place);
    }

    public int count(int what) throws IndexOutOfBoundsException {
        needWhat(what, SEASON_TELLS);
        return season.tell(what);
    }

    // ---- looking ahead

    public int foresee(int band, int contests, int what)
            throws IndexOutOfBoundsException, IllegalArgumentException {
        needBand(band);
        needWhat(what, OUTLOOK_TELLS);
        if (contests < 1 || contests > MAX_CONTESTS) {
            throw new IllegalArgumentException("contests are 1 to 20");
        }
        trial.copyFrom(season);
        for (int i = 0; i < contests; i++) {
            trialContest.hold();
        }
        Band then = trial.bandAt(band);
        return then == null ? NONE : then.outlook(what);
    }

    public int advise(int band) throws IndexOutOfBoundsException {
        needBand(band);
        trial.copyFrom(season);
        trialContest.playAllAheadOf(band);
        return trialContest.bestChange(band);
    }

    public int free(int instrument) throws IndexOutOfBoundsException {
        needInstrument(instrument);
        return season.bestFree(instrument);
    }

    public double mean() {
        return season.meanMarks();
    }

    public long digest() {
        return season.checksum();
    }

    // ---- what arguments are looked at with

    private static boolean isSkill(int skill) {
        return skill >= 0 && skill <= MAX_SKILL;
    }

    /** How many seats the digits tell, 0 if they are not 1 to 8 digits from 1 to 4. */
    private static int seatsIn(int digits) {
        int rest = digits;
        for (int size = 0; size <= MAX_SEATS; size++) {
            if (rest <= 0) {
                return size;
            }
            int digit = rest % 10;
            if (digit < 1 || digit > INSTRUMENTS) {
                return 0;
            }
            rest /= 10;
        }
        return 0;
    }

    private static void needInstrument(int instrument) {
        if (instrument < 0 || instrument >= INSTRUMENTS) {
            throw new IndexOutOfBoundsException("no such instrument");
        }
    }

    private static void needWhat(int what, int tells) {
        if (what < 0 || what >= tells) {
            throw new IndexOutOfBoundsException("nothing is told by this number");
        }
    }

    private Player needPlayer(int number) {
        Player player = season.playerAt(number);
        if (player == null) {
            throw new IndexOutOfBoundsException("no such player");
        }
        return player;
    }

    private Band needBand(int number) {
        Band band = season.bandAt(number);
        if (band == null) {
            throw new IndexOutOfBoundsException("no such band");
        }
        return band;
    }

    private Chair needChair(int band, int seat) {
        Chair chair = needBand(band).chairAt(seat);
        if (chair == null) {
            throw new IndexOutOfBoundsException("no such seat");
        }
        return chair;
    }

    /** One player, with all that is told of this one. */
    private static final class Player {
        final int[] skills = new int[INSTRUMENTS];
        int tired;
        int absences;
        int band = NONE;
        int seat = NONE;
        int sittings;
        int deputySittings;
        /** How often a deputy in the contest that is held. */
        int deputyToday;
        /** Whether this one sits in the band whose turn it is. */
        boolean sits;

        void copyFrom(Player other) {
            System.arraycopy(other.skills, 0, skills, 0, INSTRUMENTS);
            tired = other.tired;
            absences = other.absences;
            band = other.band;
            seat = other.seat;
            sittings = other.sittings;
            deputySittings = other.deputySittings;
        }

        int skillFor(int instrument) {
            return instrument >= 0 && instrument < INSTRUMENTS ? skills[instrument] : 0;
        }

        boolean isThere() {
            return absences == 0;
        }

        boolean mayBeDeputy() {
            return absences == 0 && !sits && deputyToday <= 1;
        }

        void tire(int more) {
            tired = Math.min(MAX_TIRED, tired + more);
        }

        void rest(int less) {
            tired = Math.max(0, tired - less);
        }

        int tell(int what) {
            switch (what) {
                case 4: return tired;
                case 5: return absences;
                case 6: return band;
                case 7: return seat;
                case 8: return sittings;
                case 9: return deputySittings;
                default: return skillFor(what);
            }
        }
    }

    /** One seat of a band. */
    private static final class Chair {
        int instrument;
        int member = NONE;
        /** Who sat here in the latest contest, or sits here in the one that is held. */
        int sitter = NONE;

        void copyFrom(Chair other) {
            instrument = other.instrument;
            member = other.member;
            sitter = other.sitter;
        }

        // These three hold while a contest is held: a deputy never sits for oneself,
        // and members don't change their seats meanwhile.

        boolean isEmpty() {
            return sitter == NONE;
        }

        boolean hasOwn() {
            return sitter != NONE && sitter == member;
        }

        boolean hasDeputy() {
            return sitter != NONE && sitter != member;
        }

        int tell(int what) {
            switch (what) {
                case 0: return instrument;
                case 1: return member;
                default: return sitter;
            }
        }
    }

    /** One band, with its seats and how it did in the latest contest. */
    private static final class Band {
        final Chair[] chairs = new Chair[MAX_SEATS];
        int size;
        int spirit;
        int marks = NONE;
        int place = NONE;
        int deputies = NONE;
        int empties = NONE;
        int points;
        int outs;

        Band() {
            for (int i = 0; i < MAX_SEATS; i++) {
                chairs[i] = new Chair();
            }
        }

        void copyFrom(Band other) {
            size = other.size;
            for (int i = 0; i < size; i++) {
                chairs[i].copyFrom(other.chairs[i]);
            }
            spirit = other.spirit;
            marks = other.marks;
            place = other.place;
            deputies = other.deputies;
            empties = other.empties;
            points = other.points;
            outs = other.outs;
        }

        /** Takes as many seats as told, which seatsIn has counted: the last digit is the last seat. */
        void furnish(int digits, int seats) {
            size = Math.min(seats, MAX_SEATS);
            int rest = digits;
            for (int i = size - 1; i >= 0; i--) {
                chairs[i].instrument = rest % 10 - 1;
                rest /= 10;
            }
        }

        Chair chairAt(int seat) {
            return seat >= 0 && seat < size ? chairs[seat] : null;
        }

        void raiseSpirit(int more) {
            spirit = Math.max(0, Math.min(MAX_SPIRIT, spirit + more));
        }

        int members() {
            int members = 0;
            for (int i = 0; i < size; i++) {
                if (chairs[i].member != NONE) {
                    members++;
                }
            }
            return members;
        }

        int ownSitting() {
            int own = 0;
            for (int i = 0; i < size; i++) {
                if (chairs[i].hasOwn()) {
                    own++;
                }
            }
            return own;
        }

        int deputiesSitting() {
            int sitting = 0;
            for (int i = 0; i < size; i++) {
                if (chairs[i].hasDeputy()) {
                    sitting++;
                }
            }
            return sitting;
        }

        int emptyChairs() {
            int empty = 0;
            for (int i = 0; i < size; i++) {
                if (chairs[i].isEmpty()) {
                    empty++;
                }
            }
            return empty;
        }

        /** Whether this one did better in the latest contest, without a look at the numbers of the two. */
        boolean isBetterThan(Band other) {
            return marks > other.marks || marks == other.marks && deputies < other.deputies;
        }

        int tell(int what) {
            switch (what) {
                case 0: return size;
                case 1: return members();
                case 2: return spirit;
                case 3: return marks;
                case 4: return place;
                case 5: return deputies;
                case 6: return empties;
                case 7: return points;
                default: return outs;
            }
        }

        int outlook(int what) {
            switch (what) {
                case 0: return marks;
                case 1: return place;
                case 2: return deputies;
                default: return points;
            }
        }
    }

    /** All players and bands, the piece and the taste: the state that a contest changes. */
    private static final class Season {
        final Player[] players = new Player[MAX_PLAYERS];
        final Band[] bands = new Band[MAX_BANDS];
        final int[] hard = new int[INSTRUMENTS];
        final int[] weight = new int[INSTRUMENTS];
        int playerCount;
        int bandCount;
        int contests;
        int deputies;
        int empties;

        Season() {
            for (int i = 0; i < MAX_PLAYERS; i++) {
                players[i] = new Player();
            }
            for (int i = 0; i < MAX_BANDS; i++) {
                bands[i] = new Band();
            }
            for (int i = 0; i < INSTRUMENTS; i++) {
                hard[i] = FIRST_HARD;
                weight[i] = FIRST_WEIGHT;
            }
        }

        void copyFrom(Season other) {
            playerCount = other.playerCount;
            for (int i = 0; i < playerCount; i++) {
                players[i].copyFrom(other.players[i]);
            }
            bandCount = other.bandCount;
            for (int i = 0; i < bandCount; i++) {
                bands[i].copyFrom(other.bands[i]);
            }
            System.arraycopy(other.hard, 0, hard, 0, INSTRUMENTS);
            System.arraycopy(other.weight, 0, weight, 0, INSTRUMENTS);
            contests = other.contests;
            deputies = other.deputies;
            empties = other.empties;
        }

        Player playerAt(int number) {
            return number >= 0 && number < playerCount ? players[number] : null;
        }

        Band bandAt(int number) {
            return number >= 0 && number < bandCount ? bands[number] : null;
        }

        Chair chairAt(int band, int seat) {
            Band at = bandAt(band);
            return at == null ? null : at.chairAt(seat);
        }

        int hardFor(int instrument) {
            return instrument >= 0 && instrument < INSTRUMENTS ? hard[instrument] : 0;
        }

        int weightFor(int instrument) {
            return instrument >= 0 && instrument < INSTRUMENTS ? weight[instrument] : 0;
        }

        /** Adds a player; NONE if there is no room. */
        int enrol(int cornet, int horn, int trombone, int bass) {
            if (playerCount >= MAX_PLAYERS) {
                return NONE;
            }
            int[] skills = players[playerCount].skills;
            skills[0] = cornet;
            skills[1] = horn;
            skills[2] = trombone;
            skills[3] = bass;
            playerCount++;
            return playerCount - 1;
        }

        /** Adds a band; NONE if there is no room. */
        int open(int digits, int seats) {
            if (bandCount >= MAX_BANDS) {
                return NONE;
            }
            bands[bandCount].furnish(digits, seats);
            bandCount++;
            return bandCount - 1;
        }

        /** Takes a player from the seat that this one has, if any. */
        void leave(int number) {
            Player player = playerAt(number);
            if (player == null) {
                return;
            }
            Chair chair = chairAt(player.band, player.seat);
            if (chair != null) {
                chair.member = NONE;
            }
            player.band = NONE;
            player.seat = NONE;
        }

        /** Puts a player, or nobody, on a seat whose member has left it. */
        void putOn(int band, int seat, int number) {
            Chair chair = chairAt(band, seat);
            if (chair == null) {
                return;
            }
            chair.member = number;
            Player player = playerAt(number);
            if (player != null) {
                player.band = band;
                player.seat = seat;
            }
        }

        void swapMembers(int band, int a, int b) {
            Chair first = chairAt(band, a);
            Chair second = chairAt(band, b);
            if (first == null || second == null) {
                return;
            }
            int onFirst = first.member;
            int onSecond = second.member;
            putOn(band, a, onSecond);
            putOn(band, b, onFirst);
        }

        void tireMembers(Band band, int more) {
            for (int i = 0; i < band.size; i++) {
                Player member = playerAt(band.chairs[i].member);
                if (member != null && member.isThere()) {
                    member.tire(more);
                }
            }
        }

        int membersInAll() {
            int members = 0;
            for (int i = 0; i < bandCount; i++) {
                members += bands[i].members();
            }
            return members;
        }

        int absentInAll() {
            int away = 0;
            for (int i = 0; i < playerCount; i++) {
                if (!players[i].isThere()) {
                    away++;
                }
            }
            return away;
        }

        int tell(int what) {
            switch (what) {
                case 0: return contests;
                case 1: return playerCount;
                case 2: return bandCount;
                case 3: return membersInAll();
                case 4: return absentInAll();
                case 5: return deputies;
                default: return empties;
            }
        }

        int bandByPoints(int place) {
            for (int i = 0; i < bandCount; i++) {
                if (aheadByPoints(i, bands[i].points) == place) {
                    return i;
                }
            }
            return NONE;
        }

        /** How many bands are ahead of the one that has this number and these points. */
        private int aheadByPoints(int number, int points) {
            int ahead = 0;
            for (int i = 0; i < bandCount; i++) {
                if (bands[i].points > points || bands[i].points == points && i < number) {
                    ahead++;
                }
            }
            return ahead;
        }

        int bestFree(int instrument) {
            int best = NONE;
            int most = NONE;
            for (int i = 0; i < playerCount; i++) {
                Player player = players[i];
                if (player.band == NONE && player.isThere() && player.skillFor(instrument) > most) {
                    best = i;
                    most = player.skillFor(instrument);
                }
            }
            return best;
        }

        double meanMarks() {
            int sum = 0;
            int judged = 0;
            for (int i = 0; i < bandCount; i++) {
                if (bands[i].marks != NONE) {
                    sum += bands[i].marks;
                    judged++;
                }
            }
            return judged == 0 ? 0.0 : (double) sum / judged;
        }

        long checksum() {
            long d = 613;
            for (int what = 0; what < SEASON_TELLS; what++) {
                d = d * 31 + tell(what);
            }
            for (int i = 0; i < INSTRUMENTS; i++) {
                d = d * 31 + hard[i];
                d = d * 31 + weight[i];
            }
            for (int i = 0; i < playerCount; i++) {
                for (int what = 0; what < PLAYER_TELLS; what++) {
                    d = d * 31 + players[i].tell(what);
                }
            }
            for (int i = 0; i < bandCount; i++) {
                d = withBand(d, bands[i]);
            }
            return d;
        }

        private long withBand(long before, Band band) {
            long d = before;
            for (int what = 0; what < BAND_TELLS; what++) {
                d = d * 31 + band.tell(what);
            }
            for (int i = 0; i < band.size; i++) {
                for (int what = 0; what < CHAIR_TELLS; what++) {
                    d = d * 31 + band.chairs[i].tell(what);
                }
            }
            return d;
        }
    }

    /** The rules by which the bands of a season play one after the other. */
    private static final class Contest {
        final Season season = new Season();

        /** Holds a contest and tells the band in the first place, NONE if there are no bands. */
        int hold() {
            forgetDeputies();
            for (int turn = 0; turn < season.bandCount; turn++) {
                play(bandInTurn(turn));
            }
            int winner = givePlaces();
            for (int i = 0; i < season.bandCount; i++) {
                Band band = season.bands[i];
                band.raiseSpirit(band.ownSitting() - 2 * band.deputiesSitting());
            }
            for (int i = 0; i < season.playerCount; i++) {
                Player player = season.players[i];
                player.absences = Math.max(0, player.absences - 1);
            }
            season.contests++;
            return winner;
        }

        // Nobody who plays ahead of a band hangs on its seats: so this is played once for all its changes.
        void playAllAheadOf(int number) {
            forgetDeputies();
            for (int turn = 0; turn < season.bandCount; turn++) {
                int next = bandInTurn(turn);
                if (next == number) {
                    return;
                }
                play(next);
            }
        }

        /**
         * The two seats of the band in turn that had best change their members, as 8 * the one + the other;
         * NONE if no change helps.
         */
        int bestChange(int number) {
            Band band = season.bandAt(number);
            if (band == null) {
                return NONE;
            }
            int most = marksOnceSeated(band);
            int best = NONE;
            for (int a = 0; a < band.size; a++) {
                for (int b = a + 1; b < band.size; b++) {
                    season.swapMembers(number, a, b);
                    int marks = marksOnceSeated(band);
                    season.swapMembers(number, a, b);
                    if (marks > most) {
                        most = marks;
                        best = 8 * a + b;
                    }
                }
            }
            return best;
        }

        private void forgetDeputies() {
            for (int i = 0; i < season.playerCount; i++) {
                season.players[i].deputyToday = 0;
            }
        }

        private int bandInTurn(int turn) {
            int bandCount = season.bandCount;
            return bandCount > 0 ? (season.contests % bandCount + turn) % bandCount : NONE;
        }

        private void play(int number) {
            Band band = season.bandAt(number);
            if (band == null) {
                return;
            }
            band.marks = marksOnceSeated(band);
            band.deputies = band.deputiesSitting();
            band.empties = band.emptyChairs();
            if (isOut(band)) {
                band.outs++;
            }
            season.deputies += band.deputies;
            season.empties += band.empties;
            noteSittings(band);
            moveLips();
        }

        private int marksOnceSeated(Band band) {
            for (int i = 0; i < season.playerCount; i++) {
                season.players[i].sits = false;
            }
            seatMembers(band);
            seatDeputies(band);
            return isOut(band) ? 0 : Math.max(0, marksAsSeated(band));
        }

        private void seatMembers(Band band) {
            for (int i = 0; i < band.size; i++) {
                Chair chair = band.chairs[i];
                Player member = season.playerAt(chair.member);
                chair.sitter = NONE;
                if (member != null && member.isThere()) {
                    chair.sitter = chair.member;
                    member.sits = true;
                }
            }
        }

        private void seatDeputies(Band band) {
            for (int i = 0; i < band.size; i++) {
                Chair chair = band.chairs[i];
                if (chair.isEmpty()) {
                    chair.sitter = deputyFor(chair);
                    Player deputy = season.playerAt(chair.sitter);
                    if (deputy != null) {
                        deputy.sits = true;
                    }
                }
            }
        }

        private int deputyFor(Chair chair) {
            Player member = season.playerAt(chair.member);
            int limit = member == null ? 5 : member.skillFor(chair.instrument) + 1;
            int best = NONE;
            int bestSkill = NONE;
            int bestTired = 0;
            for (int i = 0; i < season.playerCount; i++) {
                Player player = season.players[i];
                int skill = player.skillFor(chair.instrument);
                boolean may = player.mayBeDeputy() && skill <= limit;
                boolean better = skill > bestSkill || skill == bestSkill && player.tired < bestTired;
                if (may && better) {
                    best = i;
                    bestSkill = skill;
                    bestTired = player.tired;
                }
            }
            return best;
        }

        private boolean isOut(Band band) {
            return band.deputiesSitting() > MAX_DEPUTIES;
        }

        private int marksAsSeated(Band band) {
            int marks = band.spirit / 5;
            for (int i = 0; i < band.size; i++) {
                Chair chair = band.chairs[i];
                Player sitter = season.playerAt(chair.sitter);
                if (sitter == null) {
                    marks -= 5;
                } else {
                    marks += marksFor(sitter, chair.instrument);
                }
                if (chair.hasOwn()) {
                    marks++;
                }
            }
            return marks;
        }

        private int marksFor(Player player, int instrument) {
            int play = 10 + player.skillFor(instrument) - season.hardFor(instrument) - player.tired / 20;
            return Math.max(0, play) * season.weightFor(instrument);
        }

        private void noteSittings(Band band) {
            for (int i = 0; i < band.size; i++) {
                Chair chair = band.chairs[i];
                Player sitter = season.playerAt(chair.sitter);
                if (sitter == null) {
                    continue;
                }
                sitter.sittings++;
                if (chair.hasDeputy()) {
                    sitter.deputySittings++;
                    sitter.deputyToday++;
                }
            }
        }

        private void moveLips() {
            for (int i = 0; i < season.playerCount; i++) {
                Player player = season.players[i];
                if (player.sits) {
                    player.tire(15);
                } else {
                    player.rest(10);
                }
            }
        }

        private int givePlaces() {
            int winner = NONE;
            for (int i = 0; i < season.bandCount; i++) {
                Band band = season.bands[i];
                band.place = aheadByMarks(i, band);
                if (band.marks > 0) {
                    band.points += pointsFor(band.place);
                }
                if (band.place == 0) {
                    winner = i;
                }
            }
            return winner;
        }

        /** How many bands are ahead of this one, which has this number. */
        private int aheadByMarks(int number, Band band) {
            int ahead = 0;
            for (int i = 0; i < season.bandCount; i++) {
                Band other = season.bands[i];
                if (other.isBetterThan(band) || i < number && !band.isBetterThan(other)) {
                    ahead++;
                }
            }
            return ahead;
        }

        private static int pointsFor(int place) {
            switch (place) {
                case 0: return 5;
                case 1: return 3;
                case 2: return 1;
                default: return 0;
            }
        }
    }
}
