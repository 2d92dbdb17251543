/** Promises 6 to 8, 12 to 16 and 18 at their edges: kiosks, their players, and what they tell. */
final class KioskEdges {
    private KioskEdges() {
    }

    static void run() {
        kiosksAreAdded();
        playersStartWhereTheyPlay();
        startsAreRefused();
        playersStop();
        stopsAreRefused();
        whereAPlayerPlays();
        playersAtAKiosk();
        theNextLine();
        theCount();
        theTicksToWait();
        theSlide();
    }

    /** Freezes the kiosks until they are out. */
    static void makeOut(KioskReel x, int... kiosks) {
        for (int kiosk : kiosks) {
            x.freeze(kiosk);
        }
        x.tick(5);
    }

    /** Kiosks with players who show 10 times their kiosk. */
    static KioskReel players(int kiosks) {
        KioskReel x = Check.row(kiosks);
        for (int i = 0; i < kiosks; i++) {
            x.start(i, Check.list(x, "s" + 10 * i));
        }
        return x;
    }

    private static void kiosks(KioskReel x, int kiosks) {
        for (int i = 0; i < kiosks; i++) {
            x.kiosk();
        }
    }

    private static void kiosksAreAdded() {
        Edge.names(6, "Adds a kiosk at the right end of the row.");
        KioskReel x = players(2);
        makeOut(x, 0);
        Check.same("0 goes right", x.plays(0), 1);
        int added = x.kiosk();
        Check.same("state of the new one", x.state(added), 'p');
        Check.sameText("players of the new one", Check.playersAt(x, added), "");
        Check.refused("slide of the new one", Edge.MISSING, () -> x.slide(added));
        makeOut(x, 1);
        Check.same("1 goes right to the new one", x.plays(1), added);
        KioskReel one = Check.row(1);
        makeOut(one, 0);
        Check.same("started in a row of one", one.start(0, Check.list(one, "s1")), -1);
        one.kiosk();
        Check.same("a new kiosk lets none come", one.plays(0), -1);
        Edge.names(6, "Returns its number.");
        KioskReel y = new KioskReel();
        for (int i = 0; i < 6; i++) {
            Check.same("kiosk", y.kiosk(), i);
        }
        Edge.names(6, "Throws `IllegalStateException` if there are 6");
        Edge.taken("the 6th kiosk", z -> kiosks(z, 5), KioskReel::kiosk);
        Edge.refused("the 7th kiosk", Edge.STATE, z -> kiosks(z, 6), KioskReel::kiosk);
        Edge.refused("the 7th kiosk of a full row", Edge.STATE, Rows::full, KioskReel::kiosk);
        Edge.names(6, "At most 6 kiosks stand in a row, numbered from 0 from the left.");
        Check.refused("one more", Edge.STATE, y::kiosk);
        Check.refused("kiosk -1", Edge.BOUNDS, () -> y.state(-1));
        Check.same("kiosk 0", y.state(0), 'p');
        Check.same("kiosk 5", y.state(5), 'p');
        Check.refused("kiosk 6", Edge.BOUNDS, () -> y.state(6));
        KioskReel z = players(3);
        makeOut(z, 1);
        Check.same("left of 1 is 0", z.plays(1), 0);
    }

    private static void playersStartWhereTheyPlay() {
        Edge.names(7, "Starts the player of a kiosk, which plays there, or, if the kiosk is out, "
                + "where its players would go now.");
        for (int ticks = 0; ticks <= 6; ticks++) {
            KioskReel x = Check.row(2);
            int list = Check.list(x, "s1");
            x.freeze(1);
            Edge.tick(x, ticks);
            Check.same("frozen for " + ticks, x.start(1, list), ticks < 5 ? 1 : 0);
            Check.same("slides in the next tick", x.tick(1), ticks < 5 ? 0 : 1);
        }
        KioskReel x = Check.row(6);
        int list = Check.list(x, "s1");
        int[] out = {2, 1, 3, 0, 4, 5};
        int[] due = {1, 3, 0, 4, 5, -1};
        for (int i = 0; i < 6; i++) {
            makeOut(x, out[i]);
            Check.same(i + 1 + " are out", x.start(2, list), due[i]);
            Check.same("and it plays there", x.plays(2), due[i]);
            x.stop(2);
        }
        Edge.names(7, "Returns the kiosk where it plays, or -1 if it stands.");
        Check.same("all out, the first", x.start(0, list), -1);
        Check.same("all out, the last", x.start(5, list), -1);
        x.thaw(0);
        Check.same("the first thawed, the last but one", x.start(4, list), 0);
        KioskReel y = Check.row(6);
        y.list();
        for (int i = 0; i < 6; i++) {
            Check.same("start", y.start(i, 0), i);
        }
    }

    private static void startsAreRefused() {
        Edge.names(7, "`kiosk`: the kiosk");
        Edge.range("kiosk", Edge.BOUNDS, 0, 3, Rows::bare, (x, n) -> x.start(n, 0));
        Edge.range("kiosk of none", Edge.BOUNDS, 0, -1, KioskReel::list, (x, n) -> x.start(n, 0));
        Edge.range("kiosk of 6", Edge.BOUNDS, 0, 5, x -> {
            x.list();
            kiosks(x, 6);
        }, (x, n) -> x.start(n, 0));
        Edge.names(7, "`list`: the list");
        Edge.range("list", Edge.BOUNDS, 0, 2, Rows::bare, (x, n) -> x.start(0, n));
        Edge.range("list of none", Edge.BOUNDS, 0, -1, KioskReel::kiosk, (x, n) -> x.start(0, n));
        Edge.names(7, "Throws `IndexOutOfBoundsException` if there is no such kiosk or list");
        Edge.refused("no kiosk", Edge.BOUNDS, Rows::busy, x -> x.start(5, 0));
        Edge.refused("no list", Edge.BOUNDS, Rows::busy, x -> x.start(3, 6));
        Edge.refused("no list, and a player", Edge.BOUNDS, Rows::busy, x -> x.start(0, 6));
        Edge.refused("neither", Edge.BOUNDS, Rows::full, x -> x.start(6, 8));
        Edge.names(7, "Throws `IllegalStateException` if it has a player");
        for (int kiosk : new int[] {0, 1, 2, 4}) {
            Edge.refused("again " + kiosk, Edge.STATE, Rows::busy, x -> x.start(kiosk, 1));
        }
        Edge.taken("the one without a player", Rows::busy, x -> x.start(3, 1));
        for (int kiosk = 0; kiosk < 3; kiosk++) {
            int number = kiosk;
            Edge.refused("one who stands", Edge.STATE, Rows::standing, x -> x.start(number, 0));
        }
        Edge.names(7, "Each may have one player of its own, which was started with a list.");
        KioskReel x = Check.playing("s1 w5");
        int list = Check.list(x, "s2 w5");
        Check.refused("a second player", Edge.STATE, () -> x.start(0, list));
        Check.sameText("the first plays on", Edge.slides(x, 1), "1");
        x.stop(0);
        Check.same("slides without a player", x.tick(5), 0);
        Check.same("after a stop", x.start(0, list), 0);
        Check.sameText("it plays the new list", Edge.slides(x, 1), "2");
        Check.refused("a second player again", Edge.STATE, () -> x.start(0, list));
    }

    private static void playersStop() {
        Edge.names(8, "Stops the player of a kiosk, wherever it plays: its devices are freed by "
                + "rising numbers, and it leaves queues.");
        KioskReel x = Check.row(4);
        int wants = Check.list(x, "w1 d5 s1");
        x.start(0, Check.list(x, "d5 d0 d3 w20"));
        x.start(1, wants);
        x.start(2, Check.list(x, "w1 d0 s1"));
        x.start(3, Check.list(x, "w1 d3 s1"));
        x.tick(2);
        Check.same("devices of one at home", x.stop(0), 3);
        Check.sameText("who have them now",
                x.holder(0) + " " + x.holder(3) + " " + x.holder(5), "2 3 1");
        Check.same("slides of those who waited", x.tick(1), 3);
        x.start(0, wants);
        x.tick(2);
        Check.sameText("a queue of one", Check.queueOf(x, 5), "0");
        Check.same("stop of one that waits", x.stop(0), 0);
        Check.sameText("the queue is empty", Check.queueOf(x, 5), "");
        Check.same("stop of the holder", x.stop(1), 1);
        Check.refused("free without a queue", Edge.MISSING, () -> x.holder(5));
        stopsElsewhere();
        Edge.names(8, "Returns how many devices it had.");
        for (int devices = 0; devices <= 4; devices++) {
            KioskReel y = Check.playing("d0 d5 d1 d4".substring(0, Math.max(0, 3 * devices - 1)));
            Check.add(y, 0, "w9");
            y.stop(0);
            y.start(0, 0);
            y.tick(1);
            Check.same("it took " + devices, y.stop(0), Math.min(devices, 3));
            Check.same("held after it", y.heldBits(), 0);
        }
    }

    private static void stopsElsewhere() {
        KioskReel x = players(3);
        makeOut(x, 2);
        makeOut(x, 1);
        Check.sameText("at 0", Check.playersAt(x, 0), "0 1 2");
        x.stop(2);
        Check.sameText("at 0 without 2", Check.playersAt(x, 0), "0 1");
        Check.same("nobody comes to 2", x.thaw(2), 0);
        x.stop(0);
        Check.sameText("at 0 without its own", Check.playersAt(x, 0), "1");
        x.stop(1);
        Check.sameText("at 0 in the end", Check.playersAt(x, 0), "");
        Check.same("slides of nobody", x.tick(2), 0);
        KioskReel y = Edge.made(Rows::standing);
        Check.same("stop of one who stands", y.stop(0), 1);
        Check.same("the next of the queue has it", y.holder(2), 1);
        Check.same("those who still stand", y.thaw(0), 2);
    }

    private static void stopsAreRefused() {
        Edge.names(8, "`kiosk`: the kiosk");
        Edge.range("kiosk of none", Edge.BOUNDS, 0, -1, Rows::untouched, (x, n) -> x.stop(n));
        Edge.range("kiosk", Edge.BOUNDS, 0, 5, Rows::full, (x, n) -> x.stop(n));
        Edge.names(8, "Throws `IndexOutOfBoundsException` if there is no such kiosk");
        Edge.refused("kiosk 5", Edge.BOUNDS, Rows::busy, x -> x.stop(5));
        Edge.names(8, "Throws `NoSuchElementException` if it has no player");
        Edge.refused("never started", Edge.MISSING, Rows::busy, x -> x.stop(3));
        Edge.refused("stopped", Edge.MISSING, x -> {
            Rows.busy(x);
            x.stop(1);
        }, x -> x.stop(1));
        Edge.refused("elsewhere, stopped", Edge.MISSING, x -> {
            Rows.busy(x);
            x.stop(4);
        }, x -> x.stop(4));
    }

    private static void whereAPlayerPlays() {
        Edge.names(12, "Returns where the player of a kiosk plays.");
        KioskReel x = players(2);
        x.freeze(1);
        x.tick(4);
        Check.same("while frozen", x.plays(1), 1);
        x.tick(1);
        Check.same("while out", x.plays(1), 0);
        x.thaw(1);
        Check.same("thawed", x.plays(1), 1);
        Edge.leavesAsItWas("asking where", Rows::busy, y -> y.plays(4));
        Edge.names(12, "Returns the kiosk, or -1 if it stands.");
        KioskReel y = players(6);
        for (int i = 0; i < 6; i++) {
            Check.same("at home", y.plays(i), i);
        }
        makeOut(y, 0, 1, 2, 3, 4);
        for (int i = 0; i < 6; i++) {
            Check.same("five are out", y.plays(i), 5);
        }
        makeOut(y, 5);
        for (int i = 0; i < 6; i++) {
            Check.same("six are out", y.plays(i), -1);
        }
        Edge.names(12, "`kiosk`: the kiosk");
        Edge.range("kiosk", Edge.BOUNDS, 0, 5, Rows::full, (z, n) -> z.plays(n));
        Edge.names(12, "Throws `IndexOutOfBoundsException` if there is no such kiosk");
        Edge.refused("kiosk 5", Edge.BOUNDS, Rows::busy, z -> z.plays(5));
        Edge.names(12, "Throws `NoSuchElementException` if it has no player");
        Edge.refused("no player", Edge.MISSING, Rows::busy, z -> z.plays(3));
        x.stop(1);
        Check.refused("stopped", Edge.MISSING, () -> x.plays(1));
    }

    private static void playersAtAKiosk() {
        Edge.names(13, "Returns the player that plays at a kiosk.");
        KioskReel x = players(6);
        for (int i = 0; i < 6; i++) {
            Check.sameText("at home", Check.playersAt(x, i), "" + i);
        }
        // 3 goes to 4, which goes to 5 with it, and that one goes to 1 with both
        makeOut(x, 0, 2, 3, 4, 5);
        Check.sameText("six players", Check.playersAt(x, 1), "1 0 2 5 4 3");
        Edge.leavesAsItWas("asking who", Rows::busy, y -> y.playerAt(3, 0));
        Edge.names(13, "Returns the number of its own kiosk.");
        Check.same("the first", x.playerAt(1, 0), 1);
        Check.same("the last", x.playerAt(1, 5), 3);
        Edge.names(13, "`kiosk`: the kiosk");
        Edge.range("kiosk", Edge.BOUNDS, 0, 5, Rows::full, (y, n) -> y.playerAt(n, 0));
        Edge.names(13, "`index`: the index, from 0, in the order of their turns");
        int[] due = {1, 0, 2, 5, 4, 3};
        for (int i = 0; i < 6; i++) {
            Check.same("index " + i, x.playerAt(1, i), due[i]);
        }
        Edge.range("index of 6", Edge.MISSING, 0, 5, y -> {
            Rows.full(y);
            makeOut(y, 0, 2, 3, 4, 5);
        }, (y, n) -> y.playerAt(1, n));
        Edge.range("index of 0", Edge.MISSING, 0, -1, Rows::standing, (y, n) -> y.playerAt(1, n));
        Edge.range("index of 1", Edge.MISSING, 0, 0, Rows::full, (y, n) -> y.playerAt(5, n));
        Edge.names(13, "Throws `IndexOutOfBoundsException` if there is no such kiosk");
        Edge.refused("kiosk 5", Edge.BOUNDS, Rows::busy, y -> y.playerAt(5, 0));
        Edge.refused("kiosk -1 and index -1", Edge.BOUNDS, Rows::busy, y -> y.playerAt(-1, -1));
        Edge.names(13, "Throws `NoSuchElementException` if there is no such player");
        Edge.refused("an out kiosk", Edge.MISSING, Rows::busy, y -> y.playerAt(4, 0));
        Edge.refused("behind the last", Edge.MISSING, Rows::busy, y -> y.playerAt(3, 1));
        Edge.refused("ahead of the first", Edge.MISSING, Rows::busy, y -> y.playerAt(0, -1));
        x.stop(3);
        Check.same("the last of five", x.playerAt(1, 4), 4);
        Check.refused("the sixth of five", Edge.MISSING, () -> x.playerAt(1, 5));
    }

    private static void theNextLine() {
        Edge.names(14, "Returns the line that is next for the player of a kiosk.");
        KioskReel x = Check.row(1);
        Rows.fullList(x);
        x.start(0, 0);
        for (int i = 0; i <= 20; i++) {
            Check.same("after " + i + " lines", x.next(0), 100 + i);
            x.tick(1);
        }
        Check.same("the first line of the next round", x.next(0), 101);
        Edge.leavesAsItWas("asking what is next", Rows::full, y -> y.next(0));
        Edge.names(14, "Returns 100 times how many lists are on its pile, plus the line of the one "
                + "on top, also if there is no such line and the list ends by that in its next "
                + "turn; the one behind a 'd' for which it waits.");
        Check.same("an empty list", Check.playing("").next(0), 100);
        KioskReel pile = Check.playing("p0 c1 c2 c3 c4 c5 c6 c7 c8 c9 c10 c11 c12 c13 c14 c15 c16 "
                + "c17 c18 w1");
        pile.tick(2);
        Check.same("after 16 lines", pile.next(0), 413);
        pile.tick(1);
        Check.same("20 lines of the 4th list", pile.next(0), 420);
        pile.tick(1);
        Check.same("the 3rd list, after 8 lines", pile.next(0), 309);
        KioskReel far = Check.playing("w1 g20");
        far.tick(1);
        Check.same("ahead of g20", far.next(0), 101);
        far.tick(1);
        Check.same("g20, w1 of the next round", far.next(0), 101);
        KioskReel wait = Check.row(2);
        wait.start(0, Check.list(wait, "d0 w20"));
        wait.start(1, Check.list(wait, "c1 d0"));
        wait.tick(1);
        Check.same("behind the d, which is the last line", wait.next(1), 102);
        wait.tick(9);
        Check.same("while it waits", wait.next(1), 102);
        wait.stop(0);
        Check.same("when it has it", wait.next(1), 102);
        Edge.names(14, "`kiosk`: the kiosk");
        Edge.range("kiosk", Edge.BOUNDS, 0, 5, Rows::full, (y, n) -> y.next(n));
        Edge.names(14, "Throws `IndexOutOfBoundsException` if there is no such kiosk");
        Edge.refused("kiosk 5", Edge.BOUNDS, Rows::busy, y -> y.next(5));
        Edge.names(14, "Throws `NoSuchElementException` if it has no player");
        Edge.refused("no player", Edge.MISSING, Rows::busy, y -> y.next(3));
        x.stop(0);
        Check.refused("stopped", Edge.MISSING, () -> x.next(0));
    }

    private static void theCount() {
        Edge.names(15, "Returns the count of the player of a kiosk.");
        KioskReel x = Check.row(2);
        x.start(0, Check.list(x, "c99 w1 c0 w1"));
        x.start(1, Check.list(x, "c1 w1 l0 w1 l0 w1"));
        x.tick(1);
        Check.same("c99", x.count(0), 99);
        Check.same("c1", x.count(1), 1);
        x.tick(1);
        Check.same("c0", x.count(0), 0);
        Check.same("1 less", x.count(1), 0);
        x.tick(1);
        Check.same("c1 again, as l went to the first line", x.count(1), 1);
        Edge.leavesAsItWas("asking for the count", Rows::busy, y -> y.count(0));
        Edge.names(15, "Returns the count, 0 at first.");
        x.stop(0);
        x.start(0, 0);
        Check.same("0 after a new start", x.count(0), 0);
        KioskReel down = Check.playing("l1 l2 l3 w1");
        Check.same("before the first tick", down.count(0), 0);
        down.tick(1);
        Check.same("never less than 0", down.count(0), 0);
        KioskReel loop = Check.playing("c99 w1 l4 g1 w20");
        loop.tick(1);
        for (int i = 98; i >= 0; i--) {
            loop.tick(1);
            Check.same("count in a loop", loop.count(0), i);
        }
        Check.same("inside the loop", loop.next(0), 102);
        loop.tick(1);
        Check.same("behind the loop", loop.next(0), 105);
        Check.same("count behind the loop", loop.count(0), 0);
        Edge.names(15, "`kiosk`: the kiosk");
        Edge.range("kiosk", Edge.BOUNDS, 0, 5, Rows::full, (y, n) -> y.count(n));
        Edge.names(15, "Throws `IndexOutOfBoundsException` if there is no such kiosk");
        Edge.refused("kiosk 5", Edge.BOUNDS, Rows::busy, y -> y.count(5));
        Edge.names(15, "Throws `NoSuchElementException` if it has no player");
        Edge.refused("no player", Edge.MISSING, Rows::busy, y -> y.count(3));
        x.stop(1);
        Check.refused("stopped", Edge.MISSING, () -> x.count(1));
    }

    private static void theTicksToWait() {
        Edge.names(16, "Returns how many ticks the player of a kiosk has to wait by 'w'.");
        KioskReel x = Check.row(2);
        x.start(0, Check.list(x, "w20 w1 w2"));
        x.start(1, Check.list(x, "s1"));
        for (int i = 19; i >= 0; i--) {
            x.tick(1);
            Check.same("by w20", x.waits(0), i);
        }
        x.tick(1);
        Check.same("by w1", x.waits(0), 0);
        x.tick(1);
        Check.same("by w2", x.waits(0), 1);
        Edge.leavesAsItWas("asking for the ticks", Rows::busy, y -> y.waits(0));
        Edge.names(16, "Returns the number of ticks, 0 if it does not wait so, "
                + "100 if it waits for a device.");
        Check.same("one that shows", x.waits(1), 0);
        KioskReel full = Edge.made(Rows::full);
        Check.same("the holder", full.waits(0), 0);
        for (int i = 1; i < 6; i++) {
            Check.same("waits for the device", full.waits(i), 100);
        }
        full.stop(0);
        Check.same("has it now", full.waits(1), 0);
        Check.same("the next one", full.waits(2), 100);
        x.stop(0);
        x.start(0, 1);
        Check.same("started anew", x.waits(0), 0);
        Edge.names(16, "`kiosk`: the kiosk");
        Edge.range("kiosk", Edge.BOUNDS, 0, 5, Rows::full, (y, n) -> y.waits(n));
        Edge.names(16, "Throws `IndexOutOfBoundsException` if there is no such kiosk");
        Edge.refused("kiosk 5", Edge.BOUNDS, Rows::busy, y -> y.waits(5));
        Edge.names(16, "Throws `NoSuchElementException` if it has no player");
        Edge.refused("no player", Edge.MISSING, Rows::busy, y -> y.waits(3));
        full.stop(3);
        Check.refused("stopped", Edge.MISSING, () -> full.waits(3));
    }

    private static void theSlide() {
        Edge.names(18, "Returns the slide of a kiosk.");
        KioskReel x = Check.row(2);
        x.start(1, Check.list(x, "w1 s0 s99 w3"));
        x.tick(1);
        Check.refused("before the first slide", Edge.MISSING, () -> x.slide(1));
        x.tick(1);
        Check.same("slide 0", x.slide(1), 0);
        Edge.leavesAsItWas("asking for the slide", Rows::busy, y -> y.slide(1));
        Edge.names(18, "Returns the slide that was shown there last.");
        x.tick(1);
        Check.same("slide 99", x.slide(1), 99);
        x.tick(1);
        Check.same("it stays while the player waits", x.slide(1), 99);
        x.stop(1);
        Check.same("it stays without a player", x.slide(1), 99);
        makeOut(x, 1);
        Check.same("it stays while the kiosk is out", x.slide(1), 99);
        KioskReel seen = Check.playing("s1 s2 s1 w1");
        Check.visitorAt(seen, 0);
        seen.tick(2);
        Check.same("slides that nobody would see", seen.tick(3), 0);
        Check.same("are not the kiosk's", seen.slide(0), 2);
        Edge.names(18, "`kiosk`: the kiosk");
        Edge.range("kiosk", Edge.BOUNDS, 0, 2, y -> {
            KioskEdges.kiosks(y, 3);
            int list = Check.list(y, "s1");
            for (int i = 0; i < 3; i++) {
                y.start(i, list);
            }
            y.tick(1);
        }, (y, n) -> y.slide(n));
        Edge.names(18, "Throws `IndexOutOfBoundsException` if there is no such kiosk");
        Edge.refused("kiosk 5", Edge.BOUNDS, Rows::busy, y -> y.slide(5));
        Edge.names(18, "Throws `NoSuchElementException` if none was");
        Edge.refused("a kiosk without a player", Edge.MISSING, Rows::bare, y -> y.slide(3));
        Edge.refused("a player who waits", Edge.MISSING, Rows::full, y -> y.slide(5));
    }
}
