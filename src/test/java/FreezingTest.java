/** Promises 7, 9, 10, 11 and 13: frozen kiosks, watchdogs and neighbours. */
public final class FreezingTest {
    private static final Class<IndexOutOfBoundsException> BOUNDS = IndexOutOfBoundsException.class;

    public static void main(String[] args) {
        wrongKiosksAreRefused();
        kiosksAreFrozenAndThawed();
        frozenKiosksDoNotPlay();
        theFifthTickMakesOut();
        thawingCountsAnew();
        theNearestKioskPlaysOn();
        aFrozenKioskTakesPlayers();
        kiosksGoOutByRisingNumbers();
        playersGoInTheirOrder();
        thawingBringsTheOwnPlayerBackFirst();
        playersStandAndComeBack();
        playersAreStartedElsewhere();
        theOwnPlayerIsFirst();
        standingPlayersStayThoughAKioskIsNew();
        standingPlayersAreStopped();
        waitsAndCountsStay();
        Check.end();
    }

    /** Kiosks with players of a list each that shows 10 times its kiosk. */
    private static KioskReel players(int kiosks) {
        KioskReel x = Check.row(kiosks);
        for (int i = 0; i < kiosks; i++) {
            x.start(i, Check.list(x, "s" + 10 * i));
        }
        return x;
    }

    private static void makeOut(KioskReel x, int... kiosks) {
        for (int kiosk : kiosks) {
            x.freeze(kiosk);
        }
        x.tick(5);
    }

    private static void wrongKiosksAreRefused() {
        KioskReel x = Check.row(2);
        for (int kiosk : new int[] {-1, 2, 6, Integer.MAX_VALUE, Integer.MIN_VALUE}) {
            Check.refused("freeze " + kiosk, BOUNDS, () -> x.freeze(kiosk));
            Check.refused("thaw " + kiosk, BOUNDS, () -> x.thaw(kiosk));
            Check.refused("state " + kiosk, BOUNDS, () -> x.state(kiosk));
        }
    }

    private static void kiosksAreFrozenAndThawed() {
        KioskReel x = players(2);
        Check.same("state at first", x.state(1), 'p');
        Check.same("freeze", x.freeze(1), true);
        Check.same("freeze again", x.freeze(1), false);
        Check.same("state frozen", x.state(1), 'f');
        Check.same("state of the other", x.state(0), 'p');
        Check.same("thaw", x.thaw(1), 0);
        Check.same("state thawed", x.state(1), 'p');
        Check.same("thaw again", x.thaw(1), 0);
        makeOut(x, 1);
        Check.same("state out", x.state(1), 'o');
        Check.same("freeze what is out", x.freeze(1), false);
        Check.same("thaw what is out", x.thaw(1), 1);
        Check.same("state in the end", x.state(1), 'p');
        KioskReel y = Check.row(1);
        makeOut(y, 0);
        Check.same("out without players", y.state(0), 'o');
        Check.same("thaw without players", y.thaw(0), 0);
    }

    private static void frozenKiosksDoNotPlay() {
        KioskReel x = players(2);
        x.freeze(0);
        Check.same("slides", x.tick(4), 4);
        Check.same("next of the frozen one", x.next(0), 100);
        x.thaw(0);
        Check.same("slides of both", x.tick(1), 2);
        KioskReel y = Check.playing("w9 s1");
        y.tick(1);
        y.freeze(0);
        y.tick(4);
        Check.same("waits stay", y.waits(0), 8);
    }

    private static void theFifthTickMakesOut() {
        KioskReel x = players(2);
        x.freeze(1);
        x.tick(4);
        Check.same("after 4", x.state(1), 'f');
        Check.same("where after 4", x.plays(1), 1);
        Check.same("slides of the 5th", x.tick(1), 1);
        Check.same("after 5", x.state(1), 'o');
        Check.same("where after 5", x.plays(1), 0);
        Check.same("slides of the 6th", x.tick(1), 2);
        Check.same("slide of the later turn", x.slide(0), 10);
        KioskReel y = players(2);
        y.freeze(1);
        Check.same("in one call", y.tick(7), 9);
    }

    private static void thawingCountsAnew() {
        KioskReel x = players(2);
        x.freeze(1);
        x.tick(4);
        x.thaw(1);
        x.freeze(1);
        x.tick(4);
        Check.same("4 and 4", x.state(1), 'f');
        x.freeze(1);
        x.tick(1);
        Check.same("freezing again does not count anew", x.state(1), 'o');
        x.thaw(1);
        x.freeze(1);
        x.tick(4);
        Check.same("anew after being out", x.state(1), 'f');
        x.tick(1);
        Check.same("out again", x.state(1), 'o');
    }

    private static void theNearestKioskPlaysOn() {
        KioskReel x = players(6);
        makeOut(x, 2);
        Check.same("the left one of two", x.plays(2), 1);
        makeOut(x, 1);
        Check.same("1 goes left", x.plays(1), 0);
        Check.same("2 goes on from there", x.plays(2), 0);
        makeOut(x, 0);
        Check.same("0 goes right", x.plays(0), 3);
        Check.same("1 goes right", x.plays(1), 3);
        makeOut(x, 4);
        Check.same("4 goes left", x.plays(4), 3);
        makeOut(x, 3);
        Check.sameText("all at the last one", Check.playersAt(x, 5), "5 3 0 1 2 4");
        KioskReel y = players(6);
        makeOut(y, 1, 2);
        Check.same("1 is nearer to 0", y.plays(1), 0);
        Check.same("2 is nearer to 3", y.plays(2), 3);
    }

    private static void aFrozenKioskTakesPlayers() {
        KioskReel x = players(3);
        x.freeze(1);
        x.tick(1);
        x.freeze(0);
        x.tick(4);
        Check.same("1 goes to 0, which is frozen", x.plays(1), 0);
        x.tick(1);
        Check.same("both go on", x.plays(1), 2);
        Check.sameText("in their order", Check.playersAt(x, 2), "2 0 1");
    }

    private static void kiosksGoOutByRisingNumbers() {
        KioskReel x = players(3);
        makeOut(x, 1, 0);
        Check.sameText("0 goes to 1 first, and behind it", Check.playersAt(x, 2), "2 1 0");
        KioskReel y = players(3);
        makeOut(y, 2, 1);
        Check.sameText("1 goes to 0 alone", Check.playersAt(y, 0), "0 1 2");
    }

    private static void playersGoInTheirOrder() {
        KioskReel x = players(4);
        makeOut(x, 3);
        makeOut(x, 1);
        Check.sameText("at 0", Check.playersAt(x, 0), "0 1");
        Check.sameText("at 2", Check.playersAt(x, 2), "2 3");
        makeOut(x, 2);
        Check.sameText("behind those who play there", Check.playersAt(x, 0), "0 1 2 3");
        Check.sameText("where it is out", Check.playersAt(x, 2), "");
    }

    private static void thawingBringsTheOwnPlayerBackFirst() {
        KioskReel x = players(4);
        makeOut(x, 1);
        makeOut(x, 2);
        makeOut(x, 0);
        Check.sameText("at 3", Check.playersAt(x, 3), "3 2 0 1");
        Check.same("thaw 2", x.thaw(2), 1);
        Check.sameText("at 2", Check.playersAt(x, 2), "2");
        Check.sameText("at 3 without it", Check.playersAt(x, 3), "3 0 1");
        Check.same("thaw 1", x.thaw(1), 1);
        Check.sameText("at 3 without both", Check.playersAt(x, 3), "3 0");
        KioskReel y = players(2);
        y.stop(1);
        makeOut(y, 1);
        Check.same("thaw without a player", y.thaw(1), 0);
        Check.sameText("nobody comes", Check.playersAt(y, 1), "");
        Check.sameText("who does not stand stays", Check.playersAt(y, 0), "0");
    }

    private static void playersStandAndComeBack() {
        KioskReel x = players(4);
        makeOut(x, 3);
        makeOut(x, 0, 1, 2);
        for (int i = 0; i < 4; i++) {
            Check.same("stands", x.plays(i), -1);
            Check.sameText("nobody plays", Check.playersAt(x, i), "");
        }
        long before = x.done();
        Check.same("slides of those who stand", x.tick(3), 0);
        Check.same("done by those who stand", x.done(), before);
        Check.same("thaw 2", x.thaw(2), 4);
        Check.sameText("own first, then by numbers", Check.playersAt(x, 2), "2 0 1 3");
        Check.same("slides at 2", x.tick(1), 4);
        Check.same("slide at 2", x.slide(2), 30);
        Check.same("thaw 3", x.thaw(3), 1);
        Check.sameText("3 is back", Check.playersAt(x, 3), "3");
    }

    private static void playersAreStartedElsewhere() {
        KioskReel x = Check.row(4);
        int list = Check.list(x, "s1");
        makeOut(x, 1);
        Check.same("start at an out kiosk", x.start(1, list), 0);
        Check.same("plays", x.plays(1), 0);
        Check.same("start at its neighbour", x.start(0, list), 0);
        Check.sameText("own first", Check.playersAt(x, 0), "0 1");
        x.stop(1);
        makeOut(x, 0, 2);
        Check.same("start far away", x.start(1, list), 3);
        Check.same("start at a frozen one", freezeAndStart(x, 3, list), 3);
        makeOut(x, 3);
        Check.same("start where all are out", x.start(2, list), -1);
        Check.same("it stands", x.plays(2), -1);
        Check.same("thaw brings it", x.thaw(0), 4);
        Check.sameText("by numbers", Check.playersAt(x, 0), "0 1 2 3");
    }

    private static int freezeAndStart(KioskReel x, int kiosk, int list) {
        x.freeze(kiosk);
        return x.start(kiosk, list);
    }

    private static void theOwnPlayerIsFirst() {
        KioskReel x = players(3);
        makeOut(x, 1);
        x.stop(0);
        Check.sameText("a guest alone", Check.playersAt(x, 0), "1");
        x.start(0, 0);
        Check.sameText("the own one comes first", Check.playersAt(x, 0), "0 1");
        x.tick(1);
        Check.same("the guest shows last", x.slide(0), 10);
    }

    private static void standingPlayersStayThoughAKioskIsNew() {
        KioskReel x = players(2);
        makeOut(x, 0, 1);
        x.kiosk();
        Check.same("they stand still", x.plays(0), -1);
        Check.same("slides", x.tick(1), 0);
        x.freeze(2);
        Check.same("thawing what was not out", x.thaw(2), 0);
        Check.same("they stand after that", x.plays(1), -1);
        x.stop(1);
        Check.same("one that is started goes there", x.start(1, 0), 2);
        Check.same("thaw 1", x.thaw(1), 2);
        Check.sameText("its own one and 0 come", Check.playersAt(x, 1), "1 0");
    }

    private static void standingPlayersAreStopped() {
        KioskReel x = Check.row(1);
        x.start(0, Check.list(x, "d0 d1 w1"));
        x.tick(1);
        makeOut(x, 0);
        Check.same("it stands", x.plays(0), -1);
        Check.same("stop", x.stop(0), 2);
        Check.same("thaw", x.thaw(0), 0);
        Check.refused("plays", java.util.NoSuchElementException.class, () -> x.plays(0));
    }

    private static void waitsAndCountsStay() {
        KioskReel x = Check.row(2);
        x.start(0, Check.list(x, "w1"));
        x.start(1, Check.list(x, "c7 d2 p2 s1"));
        Check.list(x, "w9 s2");
        x.tick(1);
        makeOut(x, 1);
        Check.same("waits", x.waits(1), 8);
        Check.same("count", x.count(1), 7);
        Check.same("next", x.next(1), 201);
        Check.same("holder", x.holder(2), 1);
        Check.same("on after the wait", x.tick(9), 1);
        Check.same("slide at the neighbour", x.slide(0), 2);
        x.thaw(1);
        Check.same("next after thawing", x.next(1), 202);
        x.tick(1);
        Check.same("slide at home", x.slide(1), 1);
    }
}
