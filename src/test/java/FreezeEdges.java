/** Promises 9 to 11, and the terms of freezing, at their edges. */
final class FreezeEdges {
    private FreezeEdges() {
    }

    static void run() {
        kiosksAreFrozen();
        kiosksAreThawed();
        argumentsOfFreezeAndThaw();
        theState();
        theFifthTick();
        theNearestKiosk();
        playersStand();
        playersComeBack();
        whatStays();
    }

    private static void kiosksAreFrozen() {
        Edge.names(9, "Freezes a kiosk.");
        KioskReel x = KioskEdges.players(6);
        for (int i = 0; i < 6; i++) {
            x.freeze(i);
            Check.same("frozen " + i, x.state(i), 'f');
            Check.same("slides of the others", x.tick(1), 5);
            x.thaw(i);
        }
        Edge.names(9, "Returns whether it was not frozen.");
        Check.same("not frozen", x.freeze(2), true);
        Check.same("frozen", x.freeze(2), false);
        x.tick(4);
        Check.same("frozen for 4 ticks", x.freeze(2), false);
        x.tick(1);
        Check.same("out", x.freeze(2), false);
        Check.same("it stays out", x.state(2), 'o');
        x.thaw(2);
        Check.same("thawed", x.freeze(2), true);
        KioskReel none = Check.row(1);
        Check.same("without a player, not frozen", none.freeze(0), true);
        Check.same("without a player, frozen", none.freeze(0), false);
        Edge.leavesAsItWas("freezing what is frozen", Rows::busy, y -> y.freeze(2));
        Edge.leavesAsItWas("freezing what is out", Rows::busy, y -> y.freeze(4));
        Edge.names(9, "A kiosk can be frozen and thawed.");
        Check.same("thawing it", x.thaw(2), 0);
        Check.same("state", x.state(2), 'p');
        Check.same("freezing it again", x.freeze(2), true);
    }

    private static void kiosksAreThawed() {
        Edge.names(10, "Thaws a kiosk.");
        KioskReel x = KioskEdges.players(2);
        for (int ticks = 0; ticks <= 4; ticks++) {
            x.freeze(1);
            Edge.tick(x, ticks);
            Check.same("frozen for " + ticks, x.thaw(1), 0);
            Check.same("state", x.state(1), 'p');
            Check.same("slides", x.tick(1), 2);
        }
        Edge.leavesAsItWas("thawing what is not frozen", Rows::busy, y -> y.thaw(0));
        Edge.leavesAsItWas("thawing what is not frozen in a full row", Rows::full, y -> y.thaw(5));
        Edge.names(10, "Returns how many players come to it.");
        Check.same("not frozen", x.thaw(0), 0);
        KioskEdges.makeOut(x, 1);
        Check.same("out", x.thaw(1), 1);
        Check.same("not out any more", x.thaw(1), 0);
        KioskReel none = Check.row(1);
        KioskEdges.makeOut(none, 0);
        Check.same("out without players", none.thaw(0), 0);
        for (int players = 0; players <= 6; players++) {
            KioskReel y = Check.row(6);
            int list = y.list();
            for (int i = 0; i < players; i++) {
                y.start(i, list);
            }
            KioskEdges.makeOut(y, 0, 1, 2, 3, 4, 5);
            Check.same("all of " + players, y.thaw(5), players);
            Check.same("then the own one", y.thaw(0), players > 0 ? 1 : 0);
            Check.same("then the own one, if there is one", y.thaw(4), players > 4 ? 1 : 0);
        }
    }

    private static void argumentsOfFreezeAndThaw() {
        Edge.names(9, "`kiosk`: the kiosk");
        Edge.range("kiosk", Edge.BOUNDS, 0, 5, Rows::full, (x, n) -> x.freeze(n));
        Edge.range("kiosk of none", Edge.BOUNDS, 0, -1, Rows::untouched, (x, n) -> x.freeze(n));
        Edge.names(9, "Throws `IndexOutOfBoundsException` if there is no such kiosk");
        Edge.refused("kiosk 5", Edge.BOUNDS, Rows::busy, x -> x.freeze(5));
        Edge.names(10, "`kiosk`: the kiosk");
        Edge.range("kiosk", Edge.BOUNDS, 0, 5, Rows::full, (x, n) -> x.thaw(n));
        Edge.range("kiosk of none", Edge.BOUNDS, 0, -1, Rows::untouched, (x, n) -> x.thaw(n));
        Edge.names(10, "Throws `IndexOutOfBoundsException` if there is no such kiosk");
        Edge.refused("kiosk 5", Edge.BOUNDS, Rows::busy, x -> x.thaw(5));
        Edge.refused("kiosk 3", Edge.BOUNDS, Rows::standing, x -> x.thaw(3));
    }

    private static void theState() {
        Edge.names(11, "Returns the state of a kiosk.");
        KioskReel x = Check.row(6);
        for (int i = 0; i < 6; i++) {
            Check.same("at first", x.state(i), 'p');
        }
        Edge.leavesAsItWas("asking for the state", Rows::busy, y -> y.state(4));
        Edge.names(11, "Returns 'p' it plays, or could, 'f' it is frozen, 'o' it is out.");
        x.freeze(5);
        Check.same("without a player, frozen", x.state(5), 'f');
        x.tick(4);
        Check.same("frozen for 4", x.state(5), 'f');
        x.tick(1);
        Check.same("out", x.state(5), 'o');
        x.tick(50);
        Check.same("out still", x.state(5), 'o');
        Check.same("its neighbour", x.state(4), 'p');
        x.thaw(5);
        Check.same("thawed", x.state(5), 'p');
        KioskReel busy = Edge.made(Rows::busy);
        Check.sameText("of each", "" + busy.state(0) + busy.state(1) + busy.state(2)
                + busy.state(3) + busy.state(4), "ppfpo");
        Edge.names(11, "`kiosk`: the kiosk");
        Edge.range("kiosk", Edge.BOUNDS, 0, 5, Rows::full, (y, n) -> y.state(n));
        Edge.names(11, "Throws `IndexOutOfBoundsException` if there is no such kiosk");
        Edge.refused("kiosk 5", Edge.BOUNDS, Rows::busy, y -> y.state(5));
        Edge.refused("kiosk 0 of none", Edge.BOUNDS, Rows::untouched, y -> y.state(0));
    }

    private static void theFifthTick() {
        Edge.names(17, "At the end of the 5th tick in a row in which it was frozen");
        KioskReel x = KioskEdges.players(2);
        x.freeze(1);
        for (int i = 1; i <= 4; i++) {
            Check.same("slides of tick " + i, x.tick(1), 1);
            Check.same("state after tick " + i, x.state(1), 'f');
            Check.same("where after tick " + i, x.plays(1), 1);
        }
        Check.same("slides of tick 5: it is out at its end", x.tick(1), 1);
        Check.same("state after tick 5", x.state(1), 'o');
        Check.same("where after tick 5", x.plays(1), 0);
        Check.same("slides of tick 6", x.tick(1), 2);
        for (int ticks = 4; ticks <= 7; ticks++) {
            KioskReel y = KioskEdges.players(2);
            y.freeze(1);
            Check.same("slides of " + ticks + " ticks in one call", y.tick(ticks),
                    ticks + Math.max(0, ticks - 5));
            Check.same("state after them", y.state(1), ticks < 5 ? 'f' : 'o');
        }
        Edge.names(17, "counted anew if it was thawed between");
        for (int ticks = 1; ticks <= 4; ticks++) {
            KioskReel y = KioskEdges.players(2);
            y.freeze(1);
            y.tick(ticks);
            y.thaw(1);
            y.freeze(1);
            y.tick(4);
            Check.same(ticks + " and 4", y.state(1), 'f');
            Check.same("frozen already", y.freeze(1), false);
            y.tick(1);
            Check.same(ticks + " and 5", y.state(1), 'o');
            y.thaw(1);
            y.freeze(1);
            y.tick(4);
            Check.same("4 after it was out", y.state(1), 'f');
            y.tick(1);
            Check.same("5 after it was out", y.state(1), 'o');
        }
        Edge.names(17, "its watchdog makes it out, kiosks by rising numbers");
        KioskReel low = KioskEdges.players(3);
        KioskEdges.makeOut(low, 1, 0);
        Check.sameText("0 goes out first, to 1", Check.playersAt(low, 2), "2 1 0");
        KioskReel high = KioskEdges.players(3);
        KioskEdges.makeOut(high, 2, 1);
        Check.sameText("1 goes out first, to 0", Check.playersAt(high, 0), "0 1 2");
        KioskReel four = KioskEdges.players(4);
        KioskEdges.makeOut(four, 2, 1, 0);
        Check.sameText("one by one", Check.playersAt(four, 3), "3 2 1 0");
    }

    private static void theNearestKiosk() {
        Edge.names(17, "all players that play there go, in their order, to the nearest kiosk that "
                + "is not out, frozen or not, the left one of two, behind those that play there");
        for (int kiosk = 0; kiosk < 6; kiosk++) {
            KioskReel x = KioskEdges.players(6);
            KioskEdges.makeOut(x, kiosk);
            int due = kiosk == 0 ? 1 : kiosk - 1;
            Check.same("from " + kiosk, x.plays(kiosk), due);
            Check.sameText("behind the own one", Check.playersAt(x, due), due + " " + kiosk);
            Check.sameText("none stay", Check.playersAt(x, kiosk), "");
        }
        KioskReel two = KioskEdges.players(6);
        KioskEdges.makeOut(two, 1);
        KioskEdges.makeOut(two, 3);
        KioskEdges.makeOut(two, 2);
        Check.same("0 and 4 are as near", two.plays(2), 0);
        Check.same("3 went to 2, and from there", two.plays(3), 0);
        KioskReel right = KioskEdges.players(6);
        KioskEdges.makeOut(right, 0);
        KioskEdges.makeOut(right, 2);
        KioskEdges.makeOut(right, 1);
        Check.sameText("3 is nearer than none, in their order", Check.playersAt(right, 3),
                "3 1 0 2");
        KioskReel far = KioskEdges.players(6);
        KioskEdges.makeOut(far, 0, 1, 2, 3, 4);
        Check.sameText("the far end", Check.playersAt(far, 5), "5 4 3 2 1 0");
        KioskReel frozen = KioskEdges.players(3);
        frozen.freeze(1);
        frozen.tick(1);
        frozen.freeze(0);
        frozen.tick(4);
        Check.same("to one that is frozen", frozen.plays(1), 0);
        Check.same("where it does nothing", frozen.tick(1), 1);
        Check.sameText("on with those who play there", Check.playersAt(frozen, 2), "2 0 1");
    }

    private static void playersStand() {
        Edge.names(17, "if there is none, they stand.");
        KioskReel one = KioskEdges.players(1);
        one.freeze(0);
        one.tick(4);
        Check.same("one kiosk, 4 ticks", one.plays(0), 0);
        one.tick(1);
        Check.same("one kiosk, 5 ticks", one.plays(0), -1);
        Check.sameText("players there", Check.playersAt(one, 0), "");
        Check.same("slides of one who stands", one.tick(50), 0);
        Check.same("lines of one who stands", one.done(), 0);
        KioskReel six = KioskEdges.players(6);
        KioskEdges.makeOut(six, 0, 1, 2, 3, 4);
        Check.same("one is left", six.plays(0), 5);
        KioskEdges.makeOut(six, 5);
        for (int i = 0; i < 6; i++) {
            Check.same("none is left", six.plays(i), -1);
            Check.sameText("players at " + i, Check.playersAt(six, i), "");
        }
        KioskReel added = Edge.made(Rows::standing);
        int kiosk = added.kiosk();
        Check.same("a new kiosk", added.state(kiosk), 'p');
        Check.same("they stand", added.plays(0), -1);
        added.freeze(kiosk);
        Check.same("nobody comes as it is thawed, for it was not out", added.thaw(kiosk), 0);
        Check.same("they stand still", added.plays(1), -1);
        KioskEdges.makeOut(added, kiosk);
        Check.same("all come as it is thawed that was out", added.thaw(kiosk), 3);
        Check.sameText("by the numbers of their kiosks", Check.playersAt(added, kiosk), "0 1 2");
    }

    private static void playersComeBack() {
        Edge.names(10, "When a kiosk is thawed that is out, it is not out any more");
        KioskReel x = KioskEdges.players(3);
        KioskEdges.makeOut(x, 1);
        x.thaw(1);
        Check.same("state", x.state(1), 'p');
        Check.same("not frozen", x.freeze(1), true);
        x.thaw(1);
        KioskEdges.makeOut(x, 2);
        Check.same("players go to it again", x.plays(2), 1);
        Edge.names(10, "its own player comes back to it, from wherever it plays or stands, as the "
                + "first one");
        Check.same("from a neighbour", x.thaw(2), 1);
        Check.same("it plays at home", x.plays(2), 2);
        Check.sameText("it has left", Check.playersAt(x, 1), "1");
        KioskReel y = KioskEdges.players(4);
        KioskEdges.makeOut(y, 0, 1, 2, 3);
        Check.same("from standing", y.thaw(3), 4);
        Check.sameText("as the first one", Check.playersAt(y, 3), "3 0 1 2");
        y.thaw(1);
        Check.sameText("from between others", Check.playersAt(y, 3), "3 0 2");
        KioskReel none = KioskEdges.players(2);
        none.stop(1);
        KioskEdges.makeOut(none, 1);
        Check.same("no player of its own", none.thaw(1), 0);
        Edge.names(10, "and all others that stand come to it, by the numbers of their own kiosks.");
        KioskReel six = KioskEdges.players(6);
        KioskEdges.makeOut(six, 5);
        KioskEdges.makeOut(six, 3, 4);
        KioskEdges.makeOut(six, 0, 1, 2);
        Check.same("all six", six.thaw(2), 6);
        Check.sameText("their order", Check.playersAt(six, 2), "2 0 1 3 4 5");
        Check.same("those who play elsewhere stay", six.thaw(0), 1);
        Check.sameText("their order without it", Check.playersAt(six, 2), "2 1 3 4 5");
        KioskReel guests = Edge.made(Rows::standing);
        guests.stop(0);
        Check.same("standing, without an own one", guests.thaw(0), 2);
        Check.sameText("guests", Check.playersAt(guests, 0), "1 2");
        guests.start(0, 0);
        Check.sameText("the own one, started late, is first", Check.playersAt(guests, 0), "0 1 2");
    }

    private static void whatStays() {
        Edge.names(17, "Waits, counts, devices and queues of players stay as they are by all "
                + "that.");
        KioskReel x = Check.row(4);
        x.start(0, Check.list(x, "c99 w20 s1"));
        x.start(1, Check.list(x, "d0 d1 d2 p2 w20"));
        Check.list(x, "w1 s3");
        x.start(2, Check.list(x, "d1 s2"));
        x.start(3, Check.list(x, "c1 d1 s4"));
        x.tick(1);
        String before = told(x);
        KioskEdges.makeOut(x, 0, 1, 2, 3);
        Check.sameText("standing", told(x), before);
        x.thaw(3);
        Check.sameText("thawed", told(x), before);
        Check.sameText("at the thawed one", Check.playersAt(x, 3), "3 0 1 2");
        x.freeze(3);
        x.tick(5);
        Check.sameText("standing again", told(x), before);
        for (int i = 0; i < 4; i++) {
            x.thaw(i);
        }
        Check.sameText("all thawed", told(x), before);
        x.tick(1);
        Check.same("it waits on", x.waits(0), 18);
        Check.same("it goes on in the called list", x.slide(1), 3);
        Check.same("one that waits for a device", x.waits(3), 100);
    }

    private static String told(KioskReel x) {
        StringBuilder text = new StringBuilder();
        for (int i = 0; i < 4; i++) {
            text.append(x.next(i)).append(' ').append(x.count(i)).append(' ');
            text.append(x.waits(i)).append(", ");
        }
        for (int i = 0; i < 3; i++) {
            text.append(x.holder(i)).append(" [").append(Check.queueOf(x, i)).append("] ");
        }
        return text.append(x.done()).toString();
    }
}
