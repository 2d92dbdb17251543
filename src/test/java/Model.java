import java.util.ArrayList;
import java.util.HashMap;
import java.util.HashSet;
import java.util.List;
import java.util.Map;
import java.util.NoSuchElementException;
import java.util.Set;

/**
 * The document once more, written with the library and without a thought of room, and in
 * another way than the class: who plays where is derived from the order of arrivals.
 */
final class Model {
    static final class Line {
        final char kind;
        final int number;

        Line(char kind, int number) {
            this.kind = kind;
            this.number = number;
        }
    }

    static final class Played {
        final List<Line> lines;
        int next;

        Played(List<Line> lines) {
            this.lines = new ArrayList<>(lines);
        }
    }

    static final class Player {
        final int list;
        final List<Played> pile = new ArrayList<>();
        int where;
        long arrived;
        int count;
        int ticks;
        Integer device;

        Player(int list) {
            this.list = list;
        }

        Played top() {
            return pile.get(pile.size() - 1);
        }
    }

    static final class Kiosk {
        Integer frozenFor;
        boolean out;
        Integer slide;
    }

    private final List<List<Line>> lists = new ArrayList<>();
    private final List<Kiosk> kiosks = new ArrayList<>();
    private final Map<Integer, Player> players = new HashMap<>();
    /** The holder of a device, if there is one, and those who wait for it behind. */
    private final List<List<Integer>> devices = new ArrayList<>();
    private final List<Integer> visitors = new ArrayList<>();
    private final Map<Integer, Integer> seen = new HashMap<>();
    private final Set<Integer> blind = new HashSet<>();
    private long arrivals;
    private long done;

    Model() {
        for (int i = 0; i < 6; i++) {
            devices.add(new ArrayList<>());
        }
    }

    private static void bounds(boolean holds) {
        if (!holds) {
            throw new IndexOutOfBoundsException();
        }
    }

    private static void argument(boolean holds) {
        if (!holds) {
            throw new IllegalArgumentException();
        }
    }

    private static void present(boolean holds) {
        if (!holds) {
            throw new NoSuchElementException();
        }
    }

    private static void legal(boolean holds) {
        if (!holds) {
            throw new IllegalStateException();
        }
    }

    private static boolean in(int number, int from, int to) {
        return from <= number && number <= to;
    }

    int list() {
        legal(lists.size() != 8);
        lists.add(new ArrayList<>());
        return lists.size() - 1;
    }

    int line(int list, int place, char kind, int number) {
        bounds(in(list, 0, lists.size() - 1) && in(place, 0, lists.get(list).size()));
        argument("swdfgvlcp".indexOf(kind) >= 0);
        int[][] ranges = {{0, 99}, {1, 20}, {0, 5}, {0, 5}, {0, 20}, {0, 20}, {0, 20}, {0, 99}, {0, 7}};
        int[] range = ranges["swdfgvlcp".indexOf(kind)];
        argument(in(number, range[0], range[1]));
        legal(lists.get(list).size() != 20);
        lists.get(list).add(place, new Line(kind, number));
        return lists.get(list).size();
    }

    char cut(int list, int place) {
        bounds(in(list, 0, lists.size() - 1) && in(place, 0, lists.get(list).size() - 1));
        return lists.get(list).remove(place).kind;
    }

    int lines(int list, char kind) {
        bounds(in(list, 0, lists.size() - 1));
        argument("swdfgvlcp".indexOf(kind) >= 0);
        return (int) lists.get(list).stream().filter(line -> line.kind == kind).count();
    }

    int kiosk() {
        legal(kiosks.size() != 6);
        kiosks.add(new Kiosk());
        return kiosks.size() - 1;
    }

    private void isKiosk(int kiosk) {
        bounds(in(kiosk, 0, kiosks.size() - 1));
    }

    private Player player(int kiosk) {
        isKiosk(kiosk);
        present(players.containsKey(kiosk));
        return players.get(kiosk);
    }

    private int nearest(int kiosk) {
        int best = -1;
        for (int i = kiosks.size() - 1; i >= 0; i--) {
            boolean nearer = best < 0 || Math.abs(i - kiosk) <= Math.abs(best - kiosk);
            if (!kiosks.get(i).out && nearer) {
                best = i;
            }
        }
        return best;
    }

    private void arrive(int number, int kiosk) {
        arrivals++;
        players.get(number).where = kiosk;
        players.get(number).arrived = kiosk == number ? -1 : arrivals;
    }

    private List<Integer> at(int kiosk) {
        List<Integer> row = new ArrayList<>();
        players.forEach((number, player) -> {
            if (player.where == kiosk) {
                row.add(number);
            }
        });
        row.sort((a, b) -> Long.compare(players.get(a).arrived, players.get(b).arrived));
        return row;
    }

    int start(int kiosk, int list) {
        isKiosk(kiosk);
        bounds(in(list, 0, lists.size() - 1));
        legal(!players.containsKey(kiosk));
        Player player = new Player(list);
        player.pile.add(new Played(lists.get(list)));
        players.put(kiosk, player);
        arrive(kiosk, nearest(kiosk));
        return player.where;
    }

    private void free(int device) {
        devices.get(device).remove(0);
        if (!devices.get(device).isEmpty()) {
            players.get(devices.get(device).get(0)).device = null;
        }
    }

    private int held(int number) {
        return (int) devices.stream().filter(row -> row.indexOf(number) == 0).count();
    }

    int stop(int kiosk) {
        player(kiosk);
        int had = held(kiosk);
        for (int device = 0; device < 6; device++) {
            if (devices.get(device).indexOf(kiosk) == 0) {
                free(device);
            }
            devices.get(device).remove((Integer) kiosk);
        }
        players.remove(kiosk);
        return had;
    }

    boolean freeze(int kiosk) {
        isKiosk(kiosk);
        if (kiosks.get(kiosk).frozenFor != null) {
            return false;
        }
        kiosks.get(kiosk).frozenFor = 0;
        return true;
    }

    int thaw(int kiosk) {
        isKiosk(kiosk);
        kiosks.get(kiosk).frozenFor = null;
        if (!kiosks.get(kiosk).out) {
            return 0;
        }
        kiosks.get(kiosk).out = false;
        List<Integer> coming = new ArrayList<>();
        for (int i = 0; i < 6; i++) {
            if (players.containsKey(i) && (i == kiosk || players.get(i).where == -1)) {
                coming.add(i);
            }
        }
        coming.forEach(number -> arrive(number, kiosk));
        return coming.size();
    }

    char state(int kiosk) {
        isKiosk(kiosk);
        Kiosk it = kiosks.get(kiosk);
        return it.out ? 'o' : it.frozenFor != null ? 'f' : 'p';
    }

    int plays(int kiosk) {
        return player(kiosk).where;
    }

    int playerAt(int kiosk, int index) {
        isKiosk(kiosk);
        present(in(index, 0, at(kiosk).size() - 1));
        return at(kiosk).get(index);
    }

    int next(int kiosk) {
        return 100 * player(kiosk).pile.size() + player(kiosk).top().next;
    }

    int count(int kiosk) {
        return player(kiosk).count;
    }

    int waits(int kiosk) {
        return player(kiosk).device != null ? 100 : player(kiosk).ticks;
    }

    int tick(int ticks) {
        argument(in(ticks, 1, 50));
        int shown = 0;
        for (int i = 0; i < ticks; i++) {
            for (int kiosk = 0; kiosk < kiosks.size(); kiosk++) {
                if (kiosks.get(kiosk).frozenFor == null) {
                    for (int number : at(kiosk)) {
                        shown += turn(number, players.get(number)) ? 1 : 0;
                    }
                }
            }
            for (int kiosk = 0; kiosk < kiosks.size(); kiosk++) {
                Kiosk it = kiosks.get(kiosk);
                if (it.frozenFor != null && ++it.frozenFor == 5) {
                    List<Integer> going = at(kiosk);
                    it.out = true;
                    for (int number : going) {
                        arrive(number, nearest(kiosk));
                    }
                }
            }
        }
        return shown;
    }

    private boolean turn(int number, Player player) {
        if (player.device != null || player.ticks > 0) {
            player.ticks = Math.max(0, player.ticks - 1);
            return false;
        }
        int lines = 0;
        while (lines < 8) {
            Played top = player.top();
            if (top.next < top.lines.size()) {
                lines++;
                done++;
                Line line = top.lines.get(top.next++);
                if (line.kind == 's' && shows(player.where, line.number)) {
                    return true;
                }
                if (line.kind == 'w') {
                    player.ticks = line.number - 1;
                    return false;
                }
                quietLine(number, player, line);
                if (player.device != null) {
                    return false;
                }
            } else if (player.pile.size() > 1) {
                player.pile.remove(top);
            } else {
                lines++;
                done++;
                player.pile.set(0, new Played(lists.get(player.list)));
            }
        }
        return false;
    }

    private void quietLine(int number, Player player, Line line) {
        boolean jumps = line.kind == 'g' || line.kind == 'v' && !visitors.contains(player.where)
                || line.kind == 'l' && player.count == 0;
        if (jumps) {
            player.top().next = line.number;
        } else if (line.kind == 'l') {
            player.count--;
        } else if (line.kind == 'c') {
            player.count = line.number;
        } else if (line.kind == 'p' && line.number < lists.size() && player.pile.size() < 4) {
            player.pile.add(new Played(lists.get(line.number)));
        } else if (line.kind == 'f' && devices.get(line.number).indexOf(number) == 0) {
            free(line.number);
        } else if (line.kind == 'd' && held(number) < 3
                && !devices.get(line.number).contains(number)) {
            devices.get(line.number).add(number);
            if (devices.get(line.number).size() > 1) {
                player.device = line.number;
            }
        }
    }

    /** Whoever has seen a slide is blind for it until asking for it. */
    private boolean shows(int kiosk, int slide) {
        List<Integer> seeing = new ArrayList<>();
        for (int i = 0; i < visitors.size(); i++) {
            if (visitors.get(i) == kiosk && blind.add(100 * i + slide)) {
                seeing.add(100 * i + slide);
            }
        }
        seeing.forEach(key -> seen.merge(key, 1, Integer::sum));
        if (seeing.isEmpty() && visitors.contains(kiosk)) {
            return false;
        }
        kiosks.get(kiosk).slide = slide;
        return true;
    }

    int slide(int kiosk) {
        isKiosk(kiosk);
        present(kiosks.get(kiosk).slide != null);
        return kiosks.get(kiosk).slide;
    }

    int holder(int device) {
        bounds(in(device, 0, 5));
        present(!devices.get(device).isEmpty());
        return devices.get(device).get(0);
    }

    int queued(int device, int index) {
        bounds(in(device, 0, 5));
        present(index >= 0 && index < devices.get(device).size() - 1);
        return devices.get(device).get(index + 1);
    }

    int visitor() {
        legal(visitors.size() != 10);
        visitors.add(-1);
        return visitors.size() - 1;
    }

    int go(int visitor, int kiosk) {
        bounds(in(visitor, 0, visitors.size() - 1) && in(kiosk, -1, kiosks.size() - 1));
        return visitors.set(visitor, kiosk);
    }

    boolean ask(int visitor, int slide) {
        int times = saw(visitor, slide);
        blind.remove(100 * visitor + slide);
        return times > 0;
    }

    int saw(int visitor, int slide) {
        bounds(in(visitor, 0, visitors.size() - 1));
        argument(in(slide, 0, 99));
        return seen.getOrDefault(100 * visitor + slide, 0);
    }

    long done() {
        return done;
    }

    float heldShare() {
        return devices.stream().filter(row -> !row.isEmpty()).count() / 6.0f;
    }

    int heldBits() {
        return Float.floatToIntBits(heldShare());
    }

    double meanSeen() {
        if (visitors.isEmpty()) {
            throw new ArithmeticException();
        }
        return seen.values().stream().mapToInt(times -> times).sum() / (double) visitors.size();
    }

    boolean isSound() {
        return true;
    }
}
