import java.util.NoSuchElementException;

/** Promises 8, 16, 19 and 20: devices, their holders and queues. */
public final class DevicesTest {
    private static final Class<IndexOutOfBoundsException> BOUNDS = IndexOutOfBoundsException.class;
    private static final Class<NoSuchElementException> MISSING = NoSuchElementException.class;

    public static void main(String[] args) {
        devicesAreTakenAndFreed();
        wrongDevicesAreRefused();
        aPlayerHasThreeDevices();
        playersQueue();
        aFreedDeviceServesTheSameTick();
        aFreedDeviceServesTheNextTick();
        onlyTheHolderFrees();
        stoppingFreesDevices();
        stoppingLeavesQueues();
        queuesStayWhileKiosksAreOut();
        Check.end();
    }

    private static void devicesAreTakenAndFreed() {
        KioskReel x = Check.playing("d5 d5 s1 f5 s2");
        Check.refused("free at first", MISSING, () -> x.holder(5));
        Check.same("no wait for a free one", x.tick(1), 1);
        Check.same("holder", x.holder(5), 0);
        Check.same("done", x.done(), 3);
        Check.same("waits", x.waits(0), 0);
        x.tick(1);
        Check.refused("freed", MISSING, () -> x.holder(5));
    }

    private static void wrongDevicesAreRefused() {
        KioskReel x = Check.playing("d0 w9");
        x.tick(1);
        for (int device : new int[] {-1, 6, Integer.MAX_VALUE, Integer.MIN_VALUE}) {
            Check.refused("holder " + device, BOUNDS, () -> x.holder(device));
            Check.refused("queued " + device, BOUNDS, () -> x.queued(device, 0));
            Check.refused("queued -1 " + device, BOUNDS, () -> x.queued(device, -1));
        }
        Check.refused("queued, empty", MISSING, () -> x.queued(0, 0));
        Check.refused("queued, index -1", MISSING, () -> x.queued(0, -1));
        Check.refused("queued, index max", MISSING, () -> x.queued(0, Integer.MAX_VALUE));
        Check.refused("queued, a free one", MISSING, () -> x.queued(5, 0));
    }

    private static void aPlayerHasThreeDevices() {
        KioskReel x = Check.row(2);
        x.start(0, Check.list(x, "d0 d1 d2 d3 w9"));
        x.start(1, Check.list(x, "d4 w1 f4 w9"));
        x.tick(1);
        Check.refused("the 4th is not taken", MISSING, () -> x.holder(3));
        Check.same("holder 2", x.holder(2), 0);
        Check.same("done", x.done(), 7);
        KioskReel y = Check.row(2);
        y.start(0, Check.list(y, "d4 w9"));
        y.start(1, Check.list(y, "d0 d1 d2 d4 s3"));
        Check.same("nor is it waited for", y.tick(1), 1);
        Check.sameText("queue", Check.queueOf(y, 4), "");
        KioskReel z = Check.playing("d0 d1 d2 f1 d3 w9");
        z.tick(1);
        Check.same("one freed makes room", z.holder(3), 0);
    }

    private static void playersQueue() {
        KioskReel x = Check.row(4);
        x.start(0, Check.list(x, "d3 w4 f3 w20"));
        int second = Check.list(x, "c1 d3 c2 w20");
        x.start(2, second);
        x.tick(1);
        x.start(1, second);
        x.start(3, second);
        x.tick(1);
        Check.sameText("queue in the order of coming", Check.queueOf(x, 3), "2 1 3");
        Check.same("queued 2", x.queued(3, 2), 3);
        Check.refused("queued 3", MISSING, () -> x.queued(3, 3));
        Check.same("waits for a device", x.waits(2), 100);
        Check.same("next behind the d", x.next(2), 102);
        Check.same("count", x.count(2), 1);
        long before = x.done();
        x.tick(2);
        Check.same("those who wait do nothing", x.done(), before);
        x.tick(1);
        Check.same("first of the queue", x.holder(3), 2);
        Check.sameText("those who are left", Check.queueOf(x, 3), "1 3");
        Check.same("it goes on", x.count(2), 2);
        Check.same("it waits by w", x.waits(2), 19);
        Check.same("the next one waits", x.waits(1), 100);
    }

    private static void aFreedDeviceServesTheSameTick() {
        KioskReel x = Check.row(2);
        x.start(0, Check.list(x, "d3 w2 f3 s1"));
        x.start(1, Check.list(x, "d3 s2"));
        x.tick(2);
        Check.same("1 waits", x.waits(1), 100);
        Check.same("both show", x.tick(1), 2);
        Check.same("holder", x.holder(3), 1);
        Check.same("slide", x.slide(1), 2);
    }

    private static void aFreedDeviceServesTheNextTick() {
        KioskReel x = Check.row(2);
        x.start(1, Check.list(x, "d3 w2 f3 s1"));
        x.tick(1);
        x.start(0, Check.list(x, "d3 s2"));
        x.tick(1);
        Check.same("0 waits", x.waits(0), 100);
        Check.same("1 shows alone", x.tick(1), 1);
        Check.same("0 has it at once", x.holder(3), 0);
        Check.same("0 waits no more", x.waits(0), 0);
        Check.refused("0 has shown nothing", MISSING, () -> x.slide(0));
        x.tick(1);
        Check.same("0 goes on", x.slide(0), 2);
    }

    private static void onlyTheHolderFrees() {
        KioskReel x = Check.row(2);
        x.start(0, Check.list(x, "d3 w9"));
        x.start(1, Check.list(x, "f3 f4 s2"));
        Check.same("f of another's and of a free one", x.tick(1), 1);
        Check.same("holder", x.holder(3), 0);
        Check.same("done", x.done(), 5);
    }

    private static void stoppingFreesDevices() {
        KioskReel x = Check.row(4);
        x.start(0, Check.list(x, "d4 d1 d2 w20"));
        x.start(1, Check.list(x, "d2 s1"));
        x.start(2, Check.list(x, "d2 s1"));
        x.start(3, Check.list(x, "d1 s1"));
        x.tick(1);
        Check.same("stop", x.stop(0), 3);
        Check.same("holder 2", x.holder(2), 1);
        Check.sameText("queue 2", Check.queueOf(x, 2), "2");
        Check.same("holder 1", x.holder(1), 3);
        Check.refused("holder 4", MISSING, () -> x.holder(4));
        Check.same("1 waits no more", x.waits(1), 0);
        Check.same("2 waits still", x.waits(2), 100);
        Check.same("slides", x.tick(1), 2);
        Check.same("sound", x.isSound(), true);
    }

    private static void stoppingLeavesQueues() {
        KioskReel x = Check.row(4);
        int list = Check.list(x, "d0 w5 f0 w20");
        for (int i = 0; i < 4; i++) {
            x.start(i, list);
        }
        x.tick(1);
        Check.sameText("queue", Check.queueOf(x, 0), "1 2 3");
        Check.same("stop of one in the queue", x.stop(2), 0);
        Check.sameText("queue without it", Check.queueOf(x, 0), "1 3");
        x.start(2, Check.list(x, "s1"));
        Check.same("started again it does not wait", x.waits(2), 0);
        x.tick(5);
        Check.same("holder", x.holder(0), 1);
        Check.same("stop of the holder", x.stop(1), 1);
        Check.same("the one behind it", x.holder(0), 3);
        Check.sameText("queue in the end", Check.queueOf(x, 0), "");
        Check.same("sound", x.isSound(), true);
    }

    private static void queuesStayWhileKiosksAreOut() {
        KioskReel x = Check.row(2);
        x.start(0, Check.list(x, "d0 w7 f0 w20"));
        x.start(1, Check.list(x, "d0 s1 w20"));
        x.tick(1);
        x.freeze(1);
        x.tick(4);
        Check.sameText("queue while frozen", Check.queueOf(x, 0), "1");
        x.tick(1);
        Check.same("it has gone", x.plays(1), 0);
        Check.sameText("queue while out", Check.queueOf(x, 0), "1");
        Check.same("slides", x.tick(2), 1);
        Check.same("holder", x.holder(0), 1);
        Check.same("slide where it plays", x.slide(0), 1);
        KioskReel y = Check.row(2);
        y.start(0, Check.list(y, "d0 w2 f0 w20"));
        y.start(1, Check.list(y, "d0 s1"));
        y.tick(1);
        y.freeze(1);
        y.tick(2);
        Check.same("a frozen one gets the device", y.holder(0), 1);
        Check.same("next of the frozen one", y.next(1), 101);
    }
}
