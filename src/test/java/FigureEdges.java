/** Promises 25 to 29 at their edges. */
final class FigureEdges {
    private FigureEdges() {
    }

    static void run() {
        linesDone();
        theHeldShare();
        theMeanSeen();
        soundness();
    }

    private static void linesDone() {
        Edge.names(25, "Returns how many lines were done by all players, those that were stopped "
                + "included.");
        Check.same("of a new object", new KioskReel().done(), 0);
        KioskReel x = Check.row(2);
        x.start(0, Check.list(x, "c1 s1"));
        x.start(1, Check.list(x, "w1"));
        Check.same("before a tick", x.done(), 0);
        x.tick(1);
        Check.same("of both", x.done(), 3);
        x.stop(0);
        Check.same("of one that was stopped", x.done(), 3);
        x.tick(1);
        Check.same("of the other one, begun anew", x.done(), 5);
        x.stop(1);
        x.tick(50);
        Check.same("of both that were stopped", x.done(), 5);
        x.start(0, 0);
        x.tick(1);
        Check.same("of a third one", x.done(), 7);
        Edge.leavesAsItWas("asking for the lines", Rows::busy, KioskReel::done);
        Edge.names(25, "Returns the number of lines, beginnings anew included.");
        KioskReel empty = Check.playing("");
        Check.same("slides of an empty list", empty.tick(1), 0);
        Check.same("eight beginnings", empty.done(), 8);
        KioskReel most = Check.row(6);
        int list = most.list();
        for (int i = 0; i < 6; i++) {
            most.start(i, list);
        }
        for (int i = 1; i <= 400; i++) {
            most.tick(50);
            if (i % 100 == 0) {
                Check.same("the most lines that can be, " + i, most.done(), 6L * 8 * 50 * i);
            }
        }
    }

    private static void theHeldShare() {
        Edge.names(26, "Returns the share of the devices that are held.");
        Check.sameDouble("of a new object", new KioskReel().heldShare(), 0.0f);
        KioskReel queue = Edge.made(Rows::full);
        Check.sameDouble("one, with a queue of five", queue.heldShare(), 1.0f / 6.0f);
        queue.stop(0);
        Check.sameDouble("one, with a queue of four", queue.heldShare(), 1.0f / 6.0f);
        Edge.leavesAsItWas("asking for the share", Rows::busy, KioskReel::heldShare);
        Edge.leavesAsItWas("asking for its bits", Rows::busy, KioskReel::heldBits);
        Edge.names(26, "Returns their number divided by 6, both converted to float.");
        for (int held = 0; held <= 6; held++) {
            Check.sameDouble("of " + held, holding(held).heldShare(), (float) held / (float) 6);
        }
        Edge.names(27, "Returns the bits of this share, as Float.floatToIntBits tells them.");
        int[] due = {0, 1042983595, 1051372203, 1056964608, 1059760811, 1062557013, 1065353216};
        for (int held = 0; held <= 6; held++) {
            Check.same("bits of " + held, holding(held).heldBits(), due[held]);
        }
        Edge.names(27, "Returns the bits.");
        for (int held = 0; held <= 6; held++) {
            KioskReel x = holding(held);
            Check.same("bits of " + held, x.heldBits(), Float.floatToIntBits(x.heldShare()));
            Check.same("the share of the bits " + held,
                    Float.intBitsToFloat(x.heldBits()) == (float) held / 6.0f, true);
        }
    }

    /** Two players that hold so many devices, three each at most. */
    private static KioskReel holding(int devices) {
        String lines = "d0 d1 d2 d3 d4 d5";
        KioskReel x = Check.row(2);
        int first = Math.min(devices, 3);
        x.start(0, Check.list(x, lines.substring(0, Math.max(0, 3 * first - 1))));
        x.start(1, Check.list(x, lines.substring(9, Math.max(9, 3 * devices - 1))));
        Check.add(x, 0, "w20");
        Check.add(x, 1, "w20");
        x.stop(0);
        x.stop(1);
        x.start(0, 0);
        x.start(1, 1);
        x.tick(1);
        return x;
    }

    private static void theMeanSeen() {
        Edge.names(28, "Throws `ArithmeticException` if there are none");
        Edge.refused("of a new object", Edge.ARITHMETIC, Rows::untouched, KioskReel::meanSeen);
        Edge.refused("of a row without visitors", Edge.ARITHMETIC, x -> {
            int list = Check.list(x, "s1");
            x.kiosk();
            x.start(0, list);
            x.tick(3);
        }, KioskReel::meanSeen);
        Edge.names(28, "Returns the mean number of times that visitors saw slides.");
        KioskReel x = Check.playing("s0 s99 s50 w20");
        Check.visitorAt(x, 0);
        Check.sameDouble("of one who saw nothing", x.meanSeen(), 0.0);
        x.tick(1);
        Check.sameDouble("of one who saw slide 0", x.meanSeen(), 1.0);
        x.tick(1);
        Check.sameDouble("and slide 99", x.meanSeen(), 2.0);
        x.tick(1);
        Check.sameDouble("and slide 50", x.meanSeen(), 3.0);
        Edge.leavesAsItWas("asking for the mean", Rows::busy, KioskReel::meanSeen);
        Edge.names(28, "Returns the sum over all visitors and slides divided by the number of "
                + "visitors, both converted to double.");
        for (int visitors = 2; visitors <= 10; visitors++) {
            x.visitor();
            Check.sameDouble("of " + visitors, x.meanSeen(), 3.0 / (double) visitors);
        }
        x.go(9, 0);
        x.tick(50);
        Check.sameDouble("with the last one", x.meanSeen(), 6.0 / 10.0);
        x.ask(9, 50);
        x.ask(9, 50);
        x.tick(50);
        Check.sameDouble("with one seen twice", x.meanSeen(), 7.0 / 10.0);
    }

    private static void soundness() {
        Edge.names(29, "Returns whether each device has one holder at most, none of whom has more "
                + "than 3, whoever waits for a device is in its queue alone, and no visitor saw a "
                + "slide more often than once and once more for each time that it asked.");
        Edge.Step[] rows = {Rows::untouched, Rows::bare, Rows::busy, Rows::full, Rows::standing};
        for (Edge.Step row : rows) {
            KioskReel x = Edge.made(row);
            Check.same("at first", x.isSound(), true);
            for (int i = 0; i < 20; i++) {
                x.tick(1 + i % 3);
                Check.same("after ticks", x.isSound(), true);
            }
            Edge.leavesAsItWas("asking", row, KioskReel::isSound);
        }
        Edge.names(29, "Returns whether it is so.");
        Check.same("six devices, three each", holding(6).isSound(), true);
        KioskReel queue = Edge.made(Rows::full);
        for (int i = 0; i < 6; i++) {
            queue.stop(i);
            Check.same("a queue that gets shorter", queue.isSound(), true);
        }
        KioskReel waits = Check.row(2);
        waits.start(0, Check.list(waits, "d0 d5 w20"));
        waits.start(1, Check.list(waits, "d1 d5 s1"));
        waits.tick(1);
        Check.same("one with a device that waits for another", waits.isSound(), true);
        waits.stop(1);
        Check.same("stopped while it waited", waits.isSound(), true);
        waits.start(1, 1);
        Check.same("started again", waits.isSound(), true);
        KioskReel seen = Check.playing("s0 s99 w1");
        Check.visitorAt(seen, 0);
        for (int i = 0; i < 10; i++) {
            seen.tick(3);
            Check.same("seen as often as can be", seen.isSound(), true);
            seen.ask(0, 0);
            seen.ask(0, 99);
        }
        Check.same("times", seen.saw(0, 99), 10);
    }
}
