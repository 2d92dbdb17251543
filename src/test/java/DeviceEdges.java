/** Promises 19 and 20, and the terms of devices, at their edges. */
final class DeviceEdges {
    private DeviceEdges() {
    }

    static void run() {
        theHolder();
        theQueue();
        devicesAreTaken();
        devicesThatAreNotTaken();
        playersComeToTheEndOfAQueue();
        playersGoOn();
        devicesAreFreed();
    }

    private static void theHolder() {
        KioskReel x = Check.row(6);
        for (int i = 0; i < 6; i++) {
            x.start(i, Check.list(x, "d" + (5 - i) + " w20"));
        }
        x.tick(1);
        Edge.names(19, "Returns the number of the kiosk of the player.");
        for (int i = 0; i < 6; i++) {
            Check.same("holder " + i, x.holder(i), 5 - i);
        }
        KioskEdges.makeOut(x, 5);
        Check.same("its own kiosk, though it plays elsewhere", x.holder(0), 5);
        Edge.names(19, "Returns the holder of a device.");
        Check.same("the holder of the last", x.holder(5), 0);
        Edge.leavesAsItWas("asking for the holder", Rows::full, y -> y.holder(0));
        Edge.names(19, "`device`: the device, 0 to 5");
        Edge.range("device", Edge.BOUNDS, 0, 5, y -> {
            int list = Check.list(y, "d0 d1 d2 w20");
            int other = Check.list(y, "d3 d4 d5 w20");
            y.kiosk();
            y.kiosk();
            y.start(0, list);
            y.start(1, other);
            y.tick(1);
        }, (y, n) -> y.holder(n));
        Edge.names(19, "Throws `IndexOutOfBoundsException` if there is no such device");
        Edge.refused("device 6", Edge.BOUNDS, Rows::busy, y -> y.holder(6));
        Edge.refused("device -1 of a new object", Edge.BOUNDS, Rows::untouched, y -> y.holder(-1));
        Edge.names(19, "Throws `NoSuchElementException` if it is free");
        Edge.refused("a device that nobody took", Edge.MISSING, Rows::busy, y -> y.holder(5));
        for (int i = 0; i < 6; i++) {
            int device = i;
            Edge.refused("at first", Edge.MISSING, Rows::untouched, y -> y.holder(device));
            x.stop(5 - i);
            Check.refused("freed", Edge.MISSING, () -> x.holder(device));
        }
    }

    private static void theQueue() {
        Edge.names(20, "Returns a player in the queue of a device.");
        KioskReel x = Check.row(6);
        int list = Check.list(x, "d5 w20");
        for (int kiosk : new int[] {3, 1, 5, 0, 4, 2}) {
            x.start(kiosk, list);
            x.tick(1);
        }
        Check.same("holder", x.holder(5), 3);
        Check.sameText("queue", Check.queueOf(x, 5), "1 5 0 4 2");
        Edge.leavesAsItWas("asking for the queue", Rows::full, y -> y.queued(0, 4));
        Edge.names(20, "Returns the number of its kiosk.");
        Check.same("the first", x.queued(5, 0), 1);
        Check.same("the last", x.queued(5, 4), 2);
        Edge.names(20, "`device`: the device, 0 to 5");
        for (int i = 0; i < 6; i++) {
            int waited = i;
            KioskReel y = Edge.made(z -> queueOfTwo(z, waited));
            for (int k = 0; k < 6; k++) {
                Check.sameText("queue of " + k, Check.queueOf(y, k), i == k ? "1" : "");
            }
        }
        for (int device : new int[] {-1, 6, 256, 65536, Integer.MAX_VALUE, Integer.MIN_VALUE}) {
            Edge.refused("device " + device, Edge.BOUNDS, Rows::full, y -> y.queued(device, 0));
        }
        Edge.names(20, "`index`: the index, from 0");
        Edge.range("index of five", Edge.MISSING, 0, 4, Rows::full, (y, n) -> y.queued(0, n));
        Edge.range("index of none", Edge.MISSING, 0, -1, Rows::full, (y, n) -> y.queued(1, n));
        Edge.range("index of one", Edge.MISSING, 0, 0, y -> queueOfTwo(y, 3),
                (y, n) -> y.queued(3, n));
        Edge.names(20, "Throws `IndexOutOfBoundsException` if there is no such device");
        Edge.refused("device 6", Edge.BOUNDS, Rows::full, y -> y.queued(6, 0));
        Edge.refused("device -1", Edge.BOUNDS, Rows::full, y -> y.queued(-1, 0));
        Edge.refused("device 6 and index -1", Edge.BOUNDS, Rows::busy, y -> y.queued(6, -1));
        Edge.names(20, "Throws `NoSuchElementException` if there is no such player");
        Edge.refused("a free device", Edge.MISSING, Rows::untouched, y -> y.queued(0, 0));
        Edge.refused("behind the last", Edge.MISSING, Rows::full, y -> y.queued(0, 5));
        x.stop(5);
        Check.sameText("queue of four", Check.queueOf(x, 5), "1 0 4 2");
        Check.refused("the fifth of four", Edge.MISSING, () -> x.queued(5, 4));
    }

    /** Player 0 has the device, player 1 waits for it. */
    private static void queueOfTwo(KioskReel x, int device) {
        int list = Check.list(x, "d" + device + " w20");
        for (int i = 0; i < 2; i++) {
            x.kiosk();
            x.start(i, list);
        }
        x.tick(1);
    }

    private static void devicesAreTaken() {
        Edge.names(17, "'d' takes a free device");
        for (int i = 0; i < 6; i++) {
            KioskReel x = Check.playing("d" + i + " s1");
            Check.same("it does not wait", x.tick(1), 1);
            Check.same("d" + i, x.holder(i), 0);
            Check.sameText("queue", Check.queueOf(x, i), "");
            x.tick(4);
            Check.same("it keeps it when the list begins anew", x.holder(i), 0);
        }
        Edge.names(29, "The devices 0 to 5 are free at first.");
        KioskReel x = new KioskReel();
        Check.same("bits of none held", x.heldBits(), 0);
        Check.same("sound", x.isSound(), true);
    }

    private static void devicesThatAreNotTaken() {
        Edge.names(17, "it does nothing if the player has it, or has 3 already");
        KioskReel has = Check.playing("d3 d3 d3 s1");
        Check.same("it has it", has.tick(1), 1);
        Check.same("bits of one", has.heldBits(), Float.floatToIntBits(1.0f / 6.0f));
        Check.sameText("queue of its own", Check.queueOf(has, 3), "");
        KioskReel three = Check.row(2);
        three.start(0, Check.list(three, "d0 d1 d2 d3 d1 s1"));
        Check.same("the third is taken, the fourth is not", three.tick(1), 1);
        Check.same("the third", three.holder(2), 0);
        Check.refused("the fourth", Edge.MISSING, () -> three.holder(3));
        Check.same("lines", three.done(), 6);
        KioskReel held = Check.row(2);
        held.start(0, Check.list(held, "d5 w20"));
        held.start(1, Check.list(held, "d0 d1 d5 d2 d5 s1"));
        held.tick(1);
        Check.same("with two it waits", held.waits(1), 100);
        held.stop(0);
        Check.same("with three it goes on", held.tick(1), 1);
        KioskReel full = Check.row(2);
        full.start(0, Check.list(full, "d5 w20"));
        full.start(1, Check.list(full, "d0 d1 d2 d5 s1"));
        Check.same("with three it does not wait for one that is held", full.tick(1), 1);
        Check.sameText("queue without it", Check.queueOf(full, 5), "");
        KioskReel room = Check.playing("d0 d1 d2 f1 d4 d1 s1");
        room.tick(1);
        Check.same("room for one", room.holder(4), 0);
        Check.refused("not for two", Edge.MISSING, () -> room.holder(1));
    }

    private static void playersComeToTheEndOfAQueue() {
        Edge.names(17, "otherwise the player comes to the end of the queue of the device, and "
                + "waits until it has it");
        KioskReel x = Check.row(6);
        int list = Check.list(x, "d0 w20 f0 w20");
        int[] order = {2, 0, 5, 1, 4, 3};
        StringBuilder due = new StringBuilder();
        x.start(2, list);
        x.tick(1);
        for (int i = 1; i < 6; i++) {
            x.start(order[i], list);
            x.tick(1);
            due.append(i > 1 ? " " : "").append(order[i]);
            Check.sameText("queue of " + i, Check.queueOf(x, 0), due.toString());
            Check.same("it waits", x.waits(order[i]), 100);
        }
        x.tick(14);
        for (int i = 1; i < 6; i++) {
            Check.same("it waits still", x.waits(order[i]), 100);
        }
        x.tick(1);
        Check.same("the first of the queue has it", x.holder(0), 0);
        Check.sameText("the others wait", Check.queueOf(x, 0), "5 1 4 3");
        Edge.names(17, "the line is done as it begins to wait.");
        KioskReel y = Check.row(2);
        y.start(0, Check.list(y, "d0 w20"));
        y.start(1, Check.list(y, "c4 d0 s1"));
        y.tick(1);
        Check.same("lines of both", y.done(), 4);
        Check.same("next behind the d", y.next(1), 102);
        y.tick(5);
        Check.same("no line while it waits", y.done(), 4);
        y.stop(0);
        Check.same("no line as it gets it", y.done(), 4);
        y.tick(1);
        Check.same("the s alone", y.done(), 5);
    }

    private static void playersGoOn() {
        Edge.names(17, "Then it goes on at its next turn, which is in the same tick, if that is "
                + "still to come in it.");
        KioskReel right = Check.row(2);
        right.start(0, Check.list(right, "d3 w1 f3 w20"));
        right.start(1, Check.list(right, "d3 s2"));
        Check.same("1 waits", right.tick(1), 0);
        Check.same("its turn is still to come", right.tick(1), 1);
        KioskReel left = Check.row(2);
        left.start(1, Check.list(left, "w1 d3 w1 f3 w20"));
        left.start(0, Check.list(left, "w2 d3 s2"));
        left.tick(3);
        Check.same("its turn was over", left.holder(3), 0);
        Check.same("it waits no more", left.waits(0), 0);
        Check.refused("it has shown nothing", Edge.MISSING, () -> left.slide(0));
        Check.same("it goes on in the next tick", left.tick(1), 1);
        KioskReel guests = Check.row(3);
        KioskEdges.makeOut(guests, 1, 2);
        guests.start(2, Check.list(guests, "d3 w1 f3 w20"));
        guests.start(1, Check.list(guests, "d3 s2"));
        guests.start(0, Check.list(guests, "w1 d3 s1"));
        guests.tick(1);
        Check.sameText("three at one kiosk", Check.playersAt(guests, 0), "0 2 1");
        Check.sameText("the last one waits", Check.queueOf(guests, 3), "1");
        Check.same("the last one goes on at once", guests.tick(1), 1);
        Check.sameText("the own one waits now", Check.queueOf(guests, 3), "0");
        Check.same("holder", guests.holder(3), 1);
    }

    private static void devicesAreFreed() {
        Edge.names(17, "'f' frees a device that the player has, and does nothing otherwise");
        KioskReel x = Check.row(2);
        x.start(0, Check.list(x, "d0 d5 w1 f0 w20"));
        x.start(1, Check.list(x, "f0 f5 f3 s1"));
        Check.same("f of another's devices and of a free one", x.tick(1), 1);
        Check.same("lines of it", x.done(), 7);
        Check.same("holder 0", x.holder(0), 0);
        Check.same("holder 5", x.holder(5), 0);
        x.tick(1);
        Check.refused("its own one", Edge.MISSING, () -> x.holder(0));
        Check.same("not the other", x.holder(5), 0);
        KioskReel twice = Check.playing("d2 f2 f2 s1");
        Check.same("twice", twice.tick(1), 1);
        Check.refused("it is free", Edge.MISSING, () -> twice.holder(2));
        Edge.names(17, "a device that is freed goes to the first player of its queue at once.");
        KioskReel full = Edge.made(Rows::full);
        for (int i = 0; i < 6; i++) {
            Check.same("holder", full.holder(0), i);
            Check.same("it does not wait", full.waits(i), 0);
            full.stop(i);
        }
        Check.refused("when the queue is empty", Edge.MISSING, () -> full.holder(0));
        KioskReel frozen = Check.row(2);
        frozen.start(0, Check.list(frozen, "d1 w3 f1 d1 w20"));
        frozen.start(1, Check.list(frozen, "d1 s1"));
        frozen.tick(1);
        frozen.freeze(1);
        frozen.tick(3);
        Check.same("also to one that is frozen", frozen.holder(1), 1);
        Check.sameText("the one that freed it comes behind", Check.queueOf(frozen, 1), "0");
        Check.same("the frozen one does nothing", frozen.next(1), 101);
    }
}
