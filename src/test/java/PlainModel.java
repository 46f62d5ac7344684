import java.util.ArrayList;
import java.util.Comparator;
import java.util.HashMap;
import java.util.List;
import java.util.Map;
import java.util.function.ToIntFunction;

/** The document once more, in the plainest form with the Java library, to compare random runs with. */
final class PlainModel {
    static final class Player {
        int[] skill;
        int tired;
        int absent;
        int sat;
        int deputised;

        Player copy() {
            Player copy = new Player();
            copy.skill = skill;
            copy.tired = tired;
            copy.absent = absent;
            copy.sat = sat;
            copy.deputised = deputised;
            return copy;
        }
    }

    static final class Band {
        String seats;
        Map<Integer, Integer> members = new HashMap<>();
        Map<Integer, Integer> sitters = new HashMap<>();
        int spirit;
        int marks = -1;
        int place = -1;
        int deputies = -1;
        int empties = -1;
        int points;
        int outs;
        int spiritToCome;

        Band copy() {
            Band copy = new Band();
            copy.seats = seats;
            copy.members = new HashMap<>(members);
            copy.sitters = new HashMap<>(sitters);
            copy.spirit = spirit;
            copy.marks = marks;
            copy.place = place;
            copy.deputies = deputies;
            copy.empties = empties;
            copy.points = points;
            copy.outs = outs;
            return copy;
        }
    }

    private List<Player> players = new ArrayList<>();
    private List<Band> bands = new ArrayList<>();
    private int[] hard = {3, 3, 3, 3};
    private int[] weight = {1, 1, 1, 1};
    private int contests;
    private int deputies;
    private int empties;

    private PlainModel copy() {
        PlainModel copy = new PlainModel();
        players.forEach(player -> copy.players.add(player.copy()));
        bands.forEach(band -> copy.bands.add(band.copy()));
        copy.hard = hard.clone();
        copy.weight = weight.clone();
        copy.contests = contests;
        copy.deputies = deputies;
        copy.empties = empties;
        return copy;
    }

    private static void index(boolean good) {
        if (!good) {
            throw new IndexOutOfBoundsException();
        }
    }

    private static void argument(boolean good) {
        if (!good) {
            throw new IllegalArgumentException();
        }
    }

    private static void state(boolean good) {
        if (!good) {
            throw new IllegalStateException();
        }
    }

    private static boolean within(int x, int least, int most) {
        return least <= x && x <= most;
    }

    private Player playerAt(int player) {
        index(within(player, 0, players.size() - 1));
        return players.get(player);
    }

    private Band bandAt(int band) {
        index(within(band, 0, bands.size() - 1));
        return bands.get(band);
    }

    private void seatAt(int band, int seat) {
        index(within(seat, 0, bandAt(band).seats.length() - 1));
    }

    int addPlayer(int cornet, int horn, int trombone, int bass) {
        for (int skill : new int[] {cornet, horn, trombone, bass}) {
            argument(within(skill, 0, 9));
        }
        state(players.size() < 24);
        Player player = new Player();
        player.skill = new int[] {cornet, horn, trombone, bass};
        players.add(player);
        return players.size() - 1;
    }

    int found(int seats) {
        argument(String.valueOf(seats).matches("[1-4]{1,8}"));
        state(bands.size() < 6);
        Band band = new Band();
        band.seats = String.valueOf(seats);
        bands.add(band);
        return bands.size() - 1;
    }

    int seat(int band, int seat, int player) {
        seatAt(band, seat);
        index(within(player, -1, players.size() - 1));
        int before = bandAt(band).members.getOrDefault(seat, -1);
        state(player == -1 || before == -1 || before == player);
        bandAt(band).members.remove(seat);
        if (player != -1) {
            bands.forEach(each -> each.members.values().remove(player));
            bandAt(band).members.put(seat, player);
        }
        return before;
    }

    int change(int band, int a, int b) {
        seatAt(band, a);
        seatAt(band, b);
        Map<Integer, Integer> members = bandAt(band).members;
        Integer onA = members.remove(a);
        Integer onB = a == b ? onA : members.remove(b);
        if (onA != null) {
            members.put(b, onA);
        }
        if (onB != null) {
            members.put(a, onB);
        }
        return members.getOrDefault(a, -1);
    }

    int absent(int player, int contests) {
        Player one = playerAt(player);
        argument(within(contests, 0, 20));
        int before = one.absent;
        one.absent = contests;
        return before;
    }

    int rehearse(int band) {
        Band one = bandAt(band);
        one.spirit = Math.min(50, one.spirit + 3);
        for (int member : one.members.values()) {
            Player player = players.get(member);
            if (player.absent == 0) {
                player.tired = Math.min(100, player.tired + 5);
            }
        }
        return one.spirit;
    }

    int setPiece(int instrument, int value) {
        index(within(instrument, 0, 3));
        argument(within(value, 0, 9));
        int before = hard[instrument];
        hard[instrument] = value;
        return before;
    }

    int setTaste(int instrument, int value) {
        index(within(instrument, 0, 3));
        argument(within(value, 1, 5));
        int before = weight[instrument];
        weight[instrument] = value;
        return before;
    }

    private int bandOf(int player) {
        for (int band = 0; band < bands.size(); band++) {
            if (bands.get(band).members.containsValue(player)) {
                return band;
            }
        }
        return -1;
    }

    private int seatOf(int player) {
        int band = bandOf(player);
        if (band == -1) {
            return -1;
        }
        return bands.get(band).members.entrySet().stream()
                .filter(entry -> entry.getValue() == player).findFirst().orElseThrow().getKey();
    }

    int player(int player, int what) {
        Player one = playerAt(player);
        index(within(what, 0, 9));
        int[] told = {one.skill[0], one.skill[1], one.skill[2], one.skill[3], one.tired, one.absent,
            bandOf(player), seatOf(player), one.sat, one.deputised};
        return told[what];
    }

    int band(int band, int what) {
        Band one = bandAt(band);
        index(within(what, 0, 8));
        int[] told = {one.seats.length(), one.members.size(), one.spirit, one.marks, one.place, one.deputies,
            one.empties, one.points, one.outs};
        return told[what];
    }

    int chair(int band, int seat, int what) {
        seatAt(band, seat);
        index(within(what, 0, 2));
        Band one = bandAt(band);
        int[] told = {one.seats.charAt(seat) - '1', one.members.getOrDefault(seat, -1),
            one.sitters.getOrDefault(seat, -1)};
        return told[what];
    }

    int contest() {
        state(!bands.isEmpty());
        Map<Integer, Integer> timesDeputy = new HashMap<>();
        for (int i = 0; i < bands.size(); i++) {
            perform(bands.get((contests + i) % bands.size()), timesDeputy);
        }
        List<Band> order = new ArrayList<>(bands);
        order.sort(Comparator.<Band>comparingInt(band -> -band.marks).thenComparingInt(band -> band.deputies)
                .thenComparingInt(bands::indexOf));
        int[] prizes = {5, 3, 1, 0, 0, 0};
        for (int place = 0; place < order.size(); place++) {
            Band band = order.get(place);
            band.place = place;
            band.points += band.marks == 0 ? 0 : prizes[place];
            band.spirit = Math.min(50, Math.max(0, band.spirit + band.spiritToCome));
        }
        for (Player player : players) {
            player.absent -= player.absent > 0 ? 1 : 0;
        }
        contests++;
        return bands.indexOf(order.get(0));
    }

    private void perform(Band band, Map<Integer, Integer> timesDeputy) {
        int seats = band.seats.length();
        Map<Integer, Integer> sitting = new HashMap<>();
        band.members.forEach((seat, member) -> {
            if (players.get(member).absent == 0) {
                sitting.put(seat, member);
            }
        });
        int own = sitting.size();
        for (int seat = 0; seat < seats; seat++) {
            if (!sitting.containsKey(seat)) {
                int deputy = deputy(band, seat, sitting, timesDeputy);
                if (deputy != -1) {
                    sitting.put(seat, deputy);
                    timesDeputy.merge(deputy, 1, Integer::sum);
                    players.get(deputy).deputised++;
                }
            }
        }
        band.sitters = sitting;
        band.deputies = sitting.size() - own;
        band.empties = seats - sitting.size();
        band.spiritToCome = own - 2 * band.deputies;
        int marks = own - 5 * band.empties + band.spirit / 5;
        for (Map.Entry<Integer, Integer> entry : sitting.entrySet()) {
            int instrument = band.seats.charAt(entry.getKey()) - '1';
            Player player = players.get(entry.getValue());
            int play = 10 + player.skill[instrument] - hard[instrument] - player.tired / 20;
            marks += (play < 0 ? 0 : play) * weight[instrument];
        }
        band.marks = band.deputies > 3 || marks < 0 ? 0 : marks;
        band.outs += band.deputies > 3 ? 1 : 0;
        deputies += band.deputies;
        empties += band.empties;
        for (int i = 0; i < players.size(); i++) {
            Player player = players.get(i);
            boolean sat = sitting.containsValue(i);
            player.sat += sat ? 1 : 0;
            player.tired = Math.min(100, Math.max(0, player.tired + (sat ? 15 : -10)));
        }
    }

    private int deputy(Band band, int seat, Map<Integer, Integer> sitting, Map<Integer, Integer> timesDeputy) {
        int instrument = band.seats.charAt(seat) - '1';
        int limit = band.members.containsKey(seat) ? players.get(band.members.get(seat)).skill[instrument] + 1 : 5;
        return best(i -> players.get(i).absent == 0 && !sitting.containsValue(i) && timesDeputy.getOrDefault(i, 0) < 2
                && players.get(i).skill[instrument] <= limit ? 1 : 0,
                i -> 1000 * players.get(i).skill[instrument] - players.get(i).tired);
    }

    /** Of the players for whom may tells 1 the first with the greatest worth, -1 if there is none. */
    private int best(ToIntFunction<Integer> may, ToIntFunction<Integer> worth) {
        int best = -1;
        for (int i = players.size() - 1; i >= 0; i--) {
            if (may.applyAsInt(i) == 1 && (best == -1 || worth.applyAsInt(i) >= worth.applyAsInt(best))) {
                best = i;
            }
        }
        return best;
    }

    int rank(int place) {
        index(within(place, 0, bands.size() - 1));
        List<Band> order = new ArrayList<>(bands);
        order.sort(Comparator.comparingInt(band -> -band.points));
        return bands.indexOf(order.get(place));
    }

    int count(int what) {
        index(within(what, 0, 6));
        int members = bands.stream().mapToInt(band -> band.members.size()).sum();
        int away = (int) players.stream().filter(player -> player.absent > 0).count();
        int[] told = {contests, players.size(), bands.size(), members, away, deputies, empties};
        return told[what];
    }

    int foresee(int band, int contests, int what) {
        bandAt(band);
        index(within(what, 0, 3));
        argument(within(contests, 1, 20));
        PlainModel ahead = copy();
        for (int i = 0; i < contests; i++) {
            ahead.contest();
        }
        return ahead.band(band, new int[] {3, 4, 5, 7}[what]);
    }

    int advise(int band) {
        int seats = bandAt(band).seats.length();
        int most = foresee(band, 1, 0);
        int best = -1;
        for (int number = 0; number < 64; number++) {
            int a = number / 8;
            int b = number % 8;
            if (a < b && b < seats) {
                PlainModel ahead = copy();
                ahead.change(band, a, b);
                ahead.contest();
                if (ahead.band(band, 3) > most) {
                    most = ahead.band(band, 3);
                    best = number;
                }
            }
        }
        return best;
    }

    int free(int instrument) {
        index(within(instrument, 0, 3));
        return best(i -> bandOf(i) == -1 && players.get(i).absent == 0 ? 1 : 0, i -> players.get(i).skill[instrument]);
    }

    double mean() {
        return bands.stream().filter(band -> band.marks >= 0).mapToInt(band -> band.marks).average().orElse(0);
    }

    long digest() {
        List<Integer> told = new ArrayList<>();
        for (int what = 0; what < 7; what++) {
            told.add(count(what));
        }
        for (int instrument = 0; instrument < 4; instrument++) {
            told.add(hard[instrument]);
            told.add(weight[instrument]);
        }
        for (int i = 0; i < players.size(); i++) {
            for (int what = 0; what < 10; what++) {
                told.add(player(i, what));
            }
        }
        for (int i = 0; i < bands.size(); i++) {
            for (int what = 0; what < 9; what++) {
                told.add(band(i, what));
            }
            for (int seat = 0; seat < bands.get(i).seats.length(); seat++) {
                for (int what = 0; what < 3; what++) {
                    told.add(chair(i, seat, what));
                }
            }
        }
        return told.stream().mapToLong(Integer::longValue).reduce(613, (d, x) -> d * 31 + x);
    }
}
