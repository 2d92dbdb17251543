import java.util.NoSuchElementException;

/**
 * A row of kiosks that play lists of lines for visitors: lists with conditions, loops, waits,
 * calls of other lists and devices, lists that are changed while they play, leases of devices
 * with queues, watchdogs, and neighbours that play the list of a frozen kiosk on.
 */
public final class KioskReel {
    private static final int MOST_LISTS = 8;
    private static final int MOST_LINES = 20;
    private static final int MOST_KIOSKS = 6;
    private static final int MOST_VISITORS = 10;
    private static final int MOST_TICKS = 50;
    private static final int MOST_WAIT = 20;
    private static final int MOST_COUNT = 99;
    private static final int SLIDES = 100;
    private static final int DEVICES = 6;
    private static final int DEVICES_A_PLAYER = 3;
    private static final int LISTS_ON_A_PILE = 4;
    private static final int LINES_A_TURN = 8;
    private static final int FROZEN_TICKS_UNTIL_OUT = 5;
    private static final int WAITS_FOR_DEVICE = 100;
    private static final int NONE = -1;

    private final Reel[] reels = new Reel[MOST_LISTS];
    private final Kiosk[] kiosks = new Kiosk[MOST_KIOSKS];
    /** Player i is that of kiosk i, made ahead and used again for each start. */
    private final Player[] players = new Player[MOST_KIOSKS];
    private final Device[] devices = new Device[DEVICES];
    private final Visitor[] visitors = new Visitor[MOST_VISITORS];
    private int reelCount;
    private int kioskCount;
    private int visitorCount;
    private long linesDone;

    public KioskReel() {
        for (int i = 0; i < MOST_LISTS; i++) {
            reels[i] = new Reel();
        }
        for (int i = 0; i < MOST_KIOSKS; i++) {
            kiosks[i] = new Kiosk();
            players[i] = new Player();
        }
        for (int i = 0; i < DEVICES; i++) {
            devices[i] = new Device();
        }
        for (int i = 0; i < MOST_VISITORS; i++) {
            visitors[i] = new Visitor();
        }
    }

    // ---- lists

    public int list() throws IllegalStateException {
        if (reelCount >= MOST_LISTS) {
            throw new IllegalStateException("there are 8 lists");
        }
        reelCount++;
        return reelCount - 1;
    }

    public int line(int list, int place, char kind, int number)
            throws IndexOutOfBoundsException, IllegalArgumentException, IllegalStateException {
        checkList(list);
        Reel reel = reels[list];
        if (place < 0 || place > reel.size) {
            throw new IndexOutOfBoundsException("no such place");
        }
        checkKind(kind);
        if (number < leastNumber(kind) || number > mostNumber(kind)) {
            throw new IllegalArgumentException("the number is out of its range");
        }
        if (reel.size >= MOST_LINES) {
            throw new IllegalStateException("the list has 20 lines");
        }
        reel.insertAt(place, kind, number);
        return reel.size;
    }

    public char cut(int list, int place) throws IndexOutOfBoundsException {
        checkList(list);
        Reel reel = reels[list];
        if (place < 0 || place >= reel.size) {
            throw new IndexOutOfBoundsException("no such place");
        }
        char kind = reel.kinds[place];
        reel.removeAt(place);
        return kind;
    }

    public int lines(int list, char kind)
            throws IndexOutOfBoundsException, IllegalArgumentException {
        checkList(list);
        checkKind(kind);
        return reels[list].linesOf(kind);
    }

    // ---- kiosks and players

    public int kiosk() throws IllegalStateException {
        if (kioskCount >= MOST_KIOSKS) {
            throw new IllegalStateException("there are 6 kiosks");
        }
        kioskCount++;
        return kioskCount - 1;
    }

    public int start(int kiosk, int list) throws IndexOutOfBoundsException, IllegalStateException {
        checkKiosk(kiosk);
        checkList(list);
        Player player = players[kiosk];
        if (player.started) {
            throw new IllegalStateException("the kiosk has a player");
        }
        player.begin(list, reels[list]);
        settle(kiosk, nearestNotOut(kiosk));
        return player.place;
    }

    public int stop(int kiosk) throws IndexOutOfBoundsException, NoSuchElementException {
        checkPlayer(kiosk);
        int had = 0;
        for (int device = 0; device < DEVICES; device++) {
            if (devices[device].owner == kiosk) {
                passOn(device);
                had++;
            }
            devices[device].queue.remove(kiosk);
        }
        leave(kiosk);
        players[kiosk].started = false;
        return had;
    }

    public boolean freeze(int kiosk) throws IndexOutOfBoundsException {
        checkKiosk(kiosk);
        boolean wasFrozen = kiosks[kiosk].frozen;
        kiosks[kiosk].frozen = true;
        return !wasFrozen;
    }

    public int thaw(int kiosk) throws IndexOutOfBoundsException {
        checkKiosk(kiosk);
        Kiosk thawed = kiosks[kiosk];
        boolean wasOut = thawed.out;
        thawed.frozen = false;
        thawed.frozenTicks = 0;
        thawed.out = false;
        return wasOut ? gather(kiosk) : 0;
    }

    public char state(int kiosk) throws IndexOutOfBoundsException {
        checkKiosk(kiosk);
        if (kiosks[kiosk].out) {
            return 'o';
        }
        return kiosks[kiosk].frozen ? 'f' : 'p';
    }

    public int plays(int kiosk) throws IndexOutOfBoundsException, NoSuchElementException {
        checkPlayer(kiosk);
        return players[kiosk].place;
    }

    public int playerAt(int kiosk, int index)
            throws IndexOutOfBoundsException, NoSuchElementException {
        checkKiosk(kiosk);
        PlayerRow row = kiosks[kiosk].playing;
        if (index < 0 || index >= row.size) {
            throw new NoSuchElementException("no such player");
        }
        return row.members[index];
    }

    public int next(int kiosk) throws IndexOutOfBoundsException, NoSuchElementException {
        checkPlayer(kiosk);
        Player player = players[kiosk];
        return 100 * player.height + player.lineAhead();
    }

    public int count(int kiosk) throws IndexOutOfBoundsException, NoSuchElementException {
        checkPlayer(kiosk);
        return players[kiosk].counter;
    }

    public int waits(int kiosk) throws IndexOutOfBoundsException, NoSuchElementException {
        checkPlayer(kiosk);
        Player player = players[kiosk];
        return player.awaitedDevice != NONE ? WAITS_FOR_DEVICE : player.ticksToWait;
    }

    public int tick(int ticks) throws IllegalArgumentException {
        if (ticks < 1 || ticks > MOST_TICKS) {
            throw new IllegalArgumentException("the number of ticks is out of range");
        }
        int shown = 0;
        for (int i = 0; i < ticks; i++) {
            shown += playOneTick();
            watchFrozenKiosks();
        }
        return shown;
    }

    public int slide(int kiosk) throws IndexOutOfBoundsException, NoSuchElementException {
        checkKiosk(kiosk);
        int shown = kiosks[kiosk].lastSlide;
        if (shown == NONE) {
            throw new NoSuchElementException("no slide was shown");
        }
        return shown;
    }

    // ---- devices

    public int holder(int device) throws IndexOutOfBoundsException, NoSuchElementException {
        checkDevice(device);
        int owner = devices[device].owner;
        if (owner == NONE) {
            throw new NoSuchElementException("the device is free");
        }
        return owner;
    }

    public int queued(int device, int index)
            throws IndexOutOfBoundsException, NoSuchElementException {
        checkDevice(device);
        PlayerRow queue = devices[device].queue;
        if (index < 0 || index >= queue.size) {
            throw new NoSuchElementException("no such player");
        }
        return queue.members[index];
    }

    // ---- visitors

    public int visitor() throws IllegalStateException {
        if (visitorCount >= MOST_VISITORS) {
            throw new IllegalStateException("there are 10 visitors");
        }
        visitorCount++;
        return visitorCount - 1;
    }

    public int go(int visitor, int kiosk) throws IndexOutOfBoundsException {
        checkVisitor(visitor);
        if (kiosk != NONE) {
            checkKiosk(kiosk);
        }
        int before = visitors[visitor].place;
        visitors[visitor].place = kiosk;
        return before;
    }

    public boolean ask(int visitor, int slide)
            throws IndexOutOfBoundsException, IllegalArgumentException {
        checkVisitor(visitor);
        checkSlide(slide);
        Visitor asking = visitors[visitor];
        asking.wants[slide] = true;
        asking.timesAsked[slide]++;
        return asking.timesSeen[slide] > 0;
    }

    public int saw(int visitor, int slide)
            throws IndexOutOfBoundsException, IllegalArgumentException {
        checkVisitor(visitor);
        checkSlide(slide);
        return visitors[visitor].timesSeen[slide];
    }

    // ---- figures

    public long done() {
        return linesDone;
    }

    public float heldShare() {
        int held = 0;
        for (int device = 0; device < DEVICES; device++) {
            if (devices[device].owner != NONE) {
                held++;
            }
        }
        return (float) held / (float) DEVICES;
    }

    public int heldBits() {
        return bitsOfShare(heldShare());
    }

    public double meanSeen() throws ArithmeticException {
        if (visitorCount == 0) {
            throw new ArithmeticException("there are no visitors");
        }
        long sum = 0;
        for (int i = 0; i < visitorCount; i++) {
            for (int slide = 0; slide < SLIDES; slide++) {
                sum += visitors[i].timesSeen[slide];
            }
        }
        return (double) sum / (double) visitorCount;
    }

    public boolean isSound() {
        return holdersAreSound() && queuesAreSound() && visitorsAreSound();
    }

    // ---- what may be asked for

    private void checkList(int list) {
        if (list < 0 || list >= reelCount) {
            throw new IndexOutOfBoundsException("no such list");
        }
    }

    private void checkKiosk(int kiosk) {
        if (kiosk < 0 || kiosk >= kioskCount) {
            throw new IndexOutOfBoundsException("no such kiosk");
        }
    }

    private void checkPlayer(int kiosk) {
        checkKiosk(kiosk);
        if (!players[kiosk].started) {
            throw new NoSuchElementException("the kiosk has no player");
        }
    }

    private void checkVisitor(int visitor) {
        if (visitor < 0 || visitor >= visitorCount) {
            throw new IndexOutOfBoundsException("no such visitor");
        }
    }

    private static void checkDevice(int device) {
        if (device < 0 || device >= DEVICES) {
            throw new IndexOutOfBoundsException("no such device");
        }
    }

    private static void checkSlide(int slide) {
        if (slide < 0 || slide >= SLIDES) {
            throw new IllegalArgumentException("no such slide");
        }
    }

    private static void checkKind(char kind) {
        if (mostNumber(kind) == NONE) {
            throw new IllegalArgumentException("no such kind");
        }
    }

    private static int leastNumber(char kind) {
        return kind == 'w' ? 1 : 0;
    }

    /** The largest number of a line of this kind, or NONE if there is no such kind. */
    private static int mostNumber(char kind) {
        switch (kind) {
            case 's':
                return SLIDES - 1;
            case 'w':
                return MOST_WAIT;
            case 'd':
            case 'f':
                return DEVICES - 1;
            case 'g':
            case 'v':
            case 'l':
                return MOST_LINES;
            case 'c':
                return MOST_COUNT;
            case 'p':
                return MOST_LISTS - 1;
            default:
                return NONE;
        }
    }

    // ---- how players play

    private int playOneTick() {
        int shown = 0;
        for (int i = 0; i < kioskCount; i++) {
            if (!kiosks[i].frozen) {
                PlayerRow row = kiosks[i].playing;
                for (int k = 0; k < row.size; k++) {
                    shown += takeTurn(players[row.members[k]], row.members[k]);
                }
            }
        }
        return shown;
    }

    /** Returns how many slides were shown: a slide that was shown ends the turn. */
    private int takeTurn(Player player, int number) {
        if (player.ticksToWait > 0) {
            player.ticksToWait--;
            return 0;
        }
        if (player.awaitedDevice != NONE) {
            return 0;
        }
        Outcome outcome = Outcome.GOES_ON;
        for (int i = 0; i < LINES_A_TURN && outcome == Outcome.GOES_ON; i++) {
            outcome = doLine(player, number);
        }
        return outcome == Outcome.SHOWN ? 1 : 0;
    }

    private Outcome doLine(Player player, int number) {
        player.takeEndedFromPile();
        linesDone++;
        if (player.isAtEnd()) {
            player.beginPile(reels[player.firstList]);
            return Outcome.GOES_ON;
        }
        int at = player.lineAhead();
        Reel reel = player.pile[player.height - 1];
        player.goOnAt(at + 1);
        return obey(player, number, reel.kinds[at], reel.numbers[at]);
    }

    private Outcome obey(Player player, int number, char kind, int operand) {
        switch (kind) {
            case 's':
                return show(player.place, operand);
            case 'w':
                player.ticksToWait = operand - 1;
                return Outcome.ENDS_TURN;
            case 'd':
                return lease(player, number, operand);
            case 'f':
                if (devices[operand].owner == number) {
                    passOn(operand);
                }
                return Outcome.GOES_ON;
            case 'p':
                if (operand < reelCount) {
                    player.putOnPile(reels[operand]);
                }
                return Outcome.GOES_ON;
            case 'c':
                player.counter = operand;
                return Outcome.GOES_ON;
            default:
                branch(player, kind, operand);
                return Outcome.GOES_ON;
        }
    }

    private void branch(Player player, char kind, int target) {
        if (kind == 'l' && player.counter > 0) {
            player.counter--;
        } else if (kind != 'v' || !hasVisitor(player.place)) {
            player.goOnAt(target);
        }
    }

    private boolean hasVisitor(int place) {
        for (int i = 0; i < visitorCount; i++) {
            if (visitors[i].place == place) {
                return true;
            }
        }
        return false;
    }

    private Outcome show(int place, int slide) {
        boolean seen = false;
        for (int i = 0; i < visitorCount; i++) {
            Visitor visitor = visitors[i];
            if (visitor.place == place && visitor.wouldSee(slide)) {
                visitor.see(slide);
                seen = true;
            }
        }
        if (!seen && hasVisitor(place)) {
            return Outcome.GOES_ON;
        }
        kiosks[place].lastSlide = slide;
        return Outcome.SHOWN;
    }

    // ---- how devices are leased

    private Outcome lease(Player player, int number, int device) {
        Device wanted = devices[device];
        if (wanted.owner == number || devicesOf(number) >= DEVICES_A_PLAYER) {
            return Outcome.GOES_ON;
        }
        if (wanted.owner == NONE) {
            wanted.owner = number;
            return Outcome.GOES_ON;
        }
        wanted.queue.addLast(number);
        player.awaitedDevice = device;
        return Outcome.ENDS_TURN;
    }

    private int devicesOf(int number) {
        int held = 0;
        for (int device = 0; device < DEVICES; device++) {
            if (devices[device].owner == number) {
                held++;
            }
        }
        return held;
    }

    /** Frees a device, which goes to the first player of its queue at once. */
    private void passOn(int device) {
        Device freed = devices[device];
        freed.owner = NONE;
        if (freed.queue.size > 0) {
            freed.owner = freed.queue.members[0];
            freed.queue.remove(freed.owner);
            players[freed.owner].awaitedDevice = NONE;
        }
    }

    // ---- where players play

    private void watchFrozenKiosks() {
        for (int i = 0; i < kioskCount; i++) {
            Kiosk kiosk = kiosks[i];
            if (kiosk.frozen && !kiosk.out) {
                kiosk.frozenTicks++;
                if (kiosk.frozenTicks >= FROZEN_TICKS_UNTIL_OUT) {
                    makeOut(i);
                }
            }
        }
    }

    private void makeOut(int kiosk) {
        kiosks[kiosk].out = true;
        int refuge = nearestNotOut(kiosk);
        PlayerRow row = kiosks[kiosk].playing;
        int leaving = row.size;
        for (int i = 0; i < leaving; i++) {
            settle(row.members[0], refuge);
        }
    }

    /** The kiosk itself if it is not out, NONE if all kiosks are out. */
    private int nearestNotOut(int kiosk) {
        for (int distance = 0; distance < kioskCount; distance++) {
            if (isNotOut(kiosk - distance)) {
                return kiosk - distance;
            }
            if (isNotOut(kiosk + distance)) {
                return kiosk + distance;
            }
        }
        return NONE;
    }

    private boolean isNotOut(int kiosk) {
        return kiosk >= 0 && kiosk < kioskCount && !kiosks[kiosk].out;
    }

    /** Lets the own player of a kiosk and all that stand come to it. */
    private int gather(int kiosk) {
        int come = 0;
        if (players[kiosk].started) {
            settle(kiosk, kiosk);
            come++;
        }
        for (int i = 0; i < kioskCount; i++) {
            if (players[i].started && players[i].place == NONE) {
                settle(i, kiosk);
                come++;
            }
        }
        return come;
    }

    private void settle(int number, int kiosk) {
        leave(number);
        players[number].place = kiosk;
        if (kiosk == number) {
            kiosks[kiosk].playing.addFirst(number);
        } else if (kiosk != NONE) {
            kiosks[kiosk].playing.addLast(number);
        }
    }

    private void leave(int number) {
        Player player = players[number];
        if (player.place != NONE) {
            kiosks[player.place].playing.remove(number);
            player.place = NONE;
        }
    }

    // ---- figures and soundness

    /** The bits of a float from 0 to 1 that is 0 or not tiny, as Float.floatToIntBits has them. */
    private static int bitsOfShare(float share) {
        if (share <= 0.0f) {
            return 0;
        }
        float scaled = share;
        int exponent = 127;
        for (int i = 0; i < 126 && scaled < 1.0f; i++) {
            scaled = scaled * 2.0f;
            exponent--;
        }
        int fraction = (int) ((scaled - 1.0f) * 8388608.0f);
        return (exponent << 23) | fraction;
    }

    private boolean holdersAreSound() {
        for (int device = 0; device < DEVICES; device++) {
            int owner = devices[device].owner;
            if (owner != NONE && (!players[owner].started
                    || devicesOf(owner) > DEVICES_A_PLAYER)) {
                return false;
            }
        }
        return true;
    }

    private boolean queuesAreSound() {
        for (int i = 0; i < MOST_KIOSKS; i++) {
            boolean waiting = players[i].started && players[i].awaitedDevice != NONE;
            for (int device = 0; device < DEVICES; device++) {
                int due = waiting && players[i].awaitedDevice == device ? 1 : 0;
                if (devices[device].queue.timesIn(i) != due) {
                    return false;
                }
            }
        }
        return true;
    }

    private boolean visitorsAreSound() {
        for (int i = 0; i < visitorCount; i++) {
            for (int slide = 0; slide < SLIDES; slide++) {
                if (visitors[i].timesSeen[slide] > 1 + visitors[i].timesAsked[slide]) {
                    return false;
                }
            }
        }
        return true;
    }

    /** What a line that was done means for the turn of the player. */
    private enum Outcome {
        GOES_ON, SHOWN, ENDS_TURN
    }

    /** The lines of a list, or of a list as it was when a player began to play it. */
    private static final class Reel {
        final char[] kinds = new char[MOST_LINES];
        final int[] numbers = new int[MOST_LINES];
        int size;

        void insertAt(int place, char kind, int number) {
            for (int i = size; i > place; i--) {
                kinds[i] = kinds[i - 1];
                numbers[i] = numbers[i - 1];
            }
            kinds[place] = kind;
            numbers[place] = number;
            size++;
        }

        void removeAt(int place) {
            size--;
            for (int i = place; i < size; i++) {
                kinds[i] = kinds[i + 1];
                numbers[i] = numbers[i + 1];
            }
        }

        int linesOf(char kind) {
            int found = 0;
            for (int i = 0; i < size; i++) {
                if (kinds[i] == kind) {
                    found++;
                }
            }
            return found;
        }

        void copyFrom(Reel other) {
            size = other.size;
            for (int i = 0; i < size; i++) {
                kinds[i] = other.kinds[i];
                numbers[i] = other.numbers[i];
            }
        }
    }

    /** Players in an order, by the numbers of their own kiosks, each once at most. */
    private static final class PlayerRow {
        final int[] members = new int[MOST_KIOSKS];
        int size;

        void addLast(int player) {
            if (size < MOST_KIOSKS) {
                members[size] = player;
                size++;
            }
        }

        void addFirst(int player) {
            if (size < MOST_KIOSKS) {
                for (int i = size; i > 0; i--) {
                    members[i] = members[i - 1];
                }
                members[0] = player;
                size++;
            }
        }

        /** Does nothing if the player is not in the row. */
        void remove(int player) {
            int kept = 0;
            for (int i = 0; i < size; i++) {
                if (members[i] != player) {
                    members[kept] = members[i];
                    kept++;
                }
            }
            size = kept;
        }

        int timesIn(int player) {
            int times = 0;
            for (int i = 0; i < size; i++) {
                if (members[i] == player) {
                    times++;
                }
            }
            return times;
        }
    }

    private static final class Kiosk {
        final PlayerRow playing = new PlayerRow();
        boolean frozen;
        boolean out;
        int frozenTicks;
        int lastSlide = NONE;
    }

    private static final class Player {
        final Reel[] pile = new Reel[LISTS_ON_A_PILE];
        final int[] ahead = new int[LISTS_ON_A_PILE];
        int height = 1;
        boolean started;
        int firstList;
        int place = NONE;
        int counter;
        int ticksToWait;
        int awaitedDevice = NONE;

        Player() {
            for (int i = 0; i < LISTS_ON_A_PILE; i++) {
                pile[i] = new Reel();
            }
        }

        void begin(int list, Reel reel) {
            started = true;
            firstList = list;
            counter = 0;
            ticksToWait = 0;
            awaitedDevice = NONE;
            beginPile(reel);
        }

        void beginPile(Reel reel) {
            height = 0;
            putOnPile(reel);
        }

        void putOnPile(Reel reel) {
            if (height < LISTS_ON_A_PILE) {
                pile[height].copyFrom(reel);
                ahead[height] = 0;
                height++;
            }
        }

        void takeEndedFromPile() {
            while (height > 1 && isAtEnd()) {
                height--;
            }
        }

        boolean isAtEnd() {
            return lineAhead() >= pile[height - 1].size;
        }

        int lineAhead() {
            return ahead[height - 1];
        }

        void goOnAt(int line) {
            ahead[height - 1] = line;
        }
    }

    private static final class Device {
        final PlayerRow queue = new PlayerRow();
        int owner = NONE;
    }

    private static final class Visitor {
        final int[] timesSeen = new int[SLIDES];
        final int[] timesAsked = new int[SLIDES];
        final boolean[] wants = new boolean[SLIDES];
        int place = NONE;

        boolean wouldSee(int slide) {
            return timesSeen[slide] == 0 || wants[slide];
        }

        void see(int slide) {
            timesSeen[slide]++;
            wants[slide] = false;
        }
    }
}
