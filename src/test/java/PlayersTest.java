import java.util.NoSuchElementException;

/** Promises 6 to 8 and 12 to 18: kiosks, players and their turns. */
public final class PlayersTest {
    private static final Class<IndexOutOfBoundsException> BOUNDS = IndexOutOfBoundsException.class;
    private static final Class<IllegalArgumentException> ARGUMENT = IllegalArgumentException.class;
    private static final Class<IllegalStateException> STATE = IllegalStateException.class;
    private static final Class<NoSuchElementException> MISSING = NoSuchElementException.class;

    public static void main(String[] args) {
        thereAreSixKiosks();
        playersAreStarted();
        playersAreStopped();
        wrongPlayersAreRefused();
        aShownSlideEndsATurn();
        aTurnHasEightLines();
        anEmptyListBeginsAnewEightTimes();
        playersWait();
        linesGoElsewhere();
        aLineBehindTheLastEndsTheList();
        linesBranchOnVisitors();
        linesCount();
        listsAreCalled();
        aPileHasFourLists();
        listsThatAreMissingAreNotCalled();
        aMissingListIsNotOnThePile();
        endedListsAreTakenAwayInTheNextTurn();
        numbersGoWithTheirLines();
        changesWaitForTheNextBeginning();
        aCalledListHasItsLinesOfTheCall();
        ticksHaveARange();
        Check.end();
    }

    private static void thereAreSixKiosks() {
        KioskReel x = new KioskReel();
        for (int i = 0; i < 6; i++) {
            Check.same("kiosk", x.kiosk(), i);
        }
        Check.refused("the 7th kiosk", STATE, x::kiosk);
        Check.same("state of the last kiosk", x.state(5), 'p');
        Check.refused("state of a kiosk that was refused", BOUNDS, () -> x.state(6));
    }

    private static void playersAreStarted() {
        KioskReel x = Check.row(3);
        Check.list(x, "s1");
        Check.list(x, "s2");
        Check.same("start", x.start(2, 1), 2);
        Check.same("start another", x.start(0, 1), 0);
        Check.same("plays", x.plays(2), 2);
        Check.same("next", x.next(2), 100);
        Check.same("count", x.count(2), 0);
        Check.same("waits", x.waits(2), 0);
        Check.same("slides", x.tick(1), 2);
        Check.same("slide", x.slide(2), 2);
        Check.refused("start again", STATE, () -> x.start(2, 0));
        Check.refused("start, kiosk -1", BOUNDS, () -> x.start(-1, 0));
        Check.refused("start, kiosk 3", BOUNDS, () -> x.start(3, 0));
        Check.refused("start, list -1", BOUNDS, () -> x.start(1, -1));
        Check.refused("start, list 2", BOUNDS, () -> x.start(1, 2));
        Check.refused("start again with no list", BOUNDS, () -> x.start(2, 2));
        Check.refused("plays, no player", MISSING, () -> x.plays(1));
    }

    private static void playersAreStopped() {
        KioskReel x = Check.row(2);
        x.start(0, Check.list(x, "c5 p1 w9"));
        x.start(1, Check.list(x, "w9"));
        x.tick(2);
        Check.same("count before", x.count(0), 5);
        Check.same("next before", x.next(0), 201);
        Check.same("waits before", x.waits(0), 7);
        Check.same("stop", x.stop(0), 0);
        Check.sameText("players where it was", Check.playersAt(x, 0), "");
        Check.refused("stop again", MISSING, () -> x.stop(0));
        Check.refused("stop, kiosk -1", BOUNDS, () -> x.stop(-1));
        Check.refused("stop, kiosk 2", BOUNDS, () -> x.stop(2));
        long lines = x.done();
        Check.same("start after a stop", x.start(0, 0), 0);
        Check.same("count after", x.count(0), 0);
        Check.same("next after", x.next(0), 100);
        Check.same("waits after", x.waits(0), 0);
        Check.same("done after", x.done(), lines);
        Check.same("the other one", x.waits(1), 7);
    }

    private static void wrongPlayersAreRefused() {
        KioskReel x = Check.row(2);
        x.start(0, Check.list(x, "s1"));
        for (int kiosk : new int[] {-1, 2, 6, Integer.MAX_VALUE, Integer.MIN_VALUE}) {
            Check.refused("plays " + kiosk, BOUNDS, () -> x.plays(kiosk));
            Check.refused("playerAt " + kiosk, BOUNDS, () -> x.playerAt(kiosk, 0));
            Check.refused("playerAt -1 " + kiosk, BOUNDS, () -> x.playerAt(kiosk, -1));
            Check.refused("next " + kiosk, BOUNDS, () -> x.next(kiosk));
            Check.refused("count " + kiosk, BOUNDS, () -> x.count(kiosk));
            Check.refused("waits " + kiosk, BOUNDS, () -> x.waits(kiosk));
            Check.refused("slide " + kiosk, BOUNDS, () -> x.slide(kiosk));
        }
        Check.refused("plays, no player", MISSING, () -> x.plays(1));
        Check.refused("next, no player", MISSING, () -> x.next(1));
        Check.refused("count, no player", MISSING, () -> x.count(1));
        Check.refused("waits, no player", MISSING, () -> x.waits(1));
        Check.refused("slide, none shown", MISSING, () -> x.slide(0));
        Check.same("playerAt", x.playerAt(0, 0), 0);
        Check.refused("playerAt, index 1", MISSING, () -> x.playerAt(0, 1));
        Check.refused("playerAt, index -1", MISSING, () -> x.playerAt(0, -1));
        Check.refused("playerAt, index max", MISSING, () -> x.playerAt(0, Integer.MAX_VALUE));
        Check.refused("playerAt, no player", MISSING, () -> x.playerAt(1, 0));
    }

    private static void aShownSlideEndsATurn() {
        KioskReel x = Check.playing("s0 s99 c1 s5");
        Check.same("1st slide", x.tick(1), 1);
        Check.same("slide 0", x.slide(0), 0);
        Check.same("next", x.next(0), 101);
        Check.same("done", x.done(), 1);
        Check.same("2nd slide", x.tick(1), 1);
        Check.same("slide 99", x.slide(0), 99);
        Check.same("3rd slide", x.tick(1), 1);
        Check.same("next behind the last", x.next(0), 104);
        Check.same("done by then", x.done(), 4);
        Check.same("4th slide", x.tick(1), 1);
        Check.same("slide of the 1st line", x.slide(0), 0);
        Check.same("done with the beginning anew", x.done(), 6);
        Check.same("slides of many ticks", x.tick(50), 50);
    }

    private static void aTurnHasEightLines() {
        KioskReel x = Check.playing("c1 c2 c3 c4 c5 c6 c7 s1 c9");
        Check.same("the 8th line shows", x.tick(1), 1);
        Check.same("next", x.next(0), 108);
        KioskReel y = Check.playing("c1 c2 c3 c4 c5 c6 c7 c8 s1");
        Check.same("the 9th line comes later", y.tick(1), 0);
        Check.same("done", y.done(), 8);
        Check.same("next of eight", y.next(0), 108);
        Check.same("count of eight", y.count(0), 8);
        Check.same("it comes in the next tick", y.tick(1), 1);
        KioskReel z = Check.playing("c1 c2");
        z.tick(1);
        Check.same("beginnings anew are among the eight", z.next(0), 102);
        Check.same("done with two of them", z.done(), 8);
        z.tick(1);
        Check.same("a turn that begins with a beginning", z.next(0), 101);
        Check.same("done with three more", z.done(), 16);
        KioskReel ended = Check.playing("c1 c2 c3");
        ended.tick(1);
        Check.same("a beginning as the 8th line", ended.next(0), 100);
        Check.same("count behind it", ended.count(0), 3);
    }

    private static void anEmptyListBeginsAnewEightTimes() {
        KioskReel x = Check.playing("");
        Check.same("slides", x.tick(1), 0);
        Check.same("done", x.done(), 8);
        Check.same("next", x.next(0), 100);
        x.line(0, 0, 's', 3);
        Check.same("the line that came later", x.tick(1), 1);
        Check.same("done with it", x.done(), 10);
    }

    private static void playersWait() {
        KioskReel x = Check.playing("w3 w1 s1");
        Check.same("w3", x.tick(1), 0);
        Check.same("waits 2", x.waits(0), 2);
        Check.same("next", x.next(0), 101);
        x.tick(1);
        Check.same("waits 1", x.waits(0), 1);
        x.tick(1);
        Check.same("waits 0", x.waits(0), 0);
        Check.same("next while it waits", x.next(0), 101);
        Check.same("done while it waits", x.done(), 1);
        Check.same("w1", x.tick(1), 0);
        Check.same("w1 leaves none to wait", x.waits(0), 0);
        Check.same("next behind w1", x.next(0), 102);
        Check.same("on in the next tick", x.tick(1), 1);
        KioskReel y = Check.playing("w20 s1");
        Check.same("w20", y.tick(20), 0);
        Check.same("behind w20", y.tick(1), 1);
    }

    private static void linesGoElsewhere() {
        KioskReel x = Check.playing("g3 s1 g4 g1 s2");
        Check.same("g", x.tick(1), 1);
        Check.same("it shows s1", x.slide(0), 1);
        Check.same("done", x.done(), 3);
        x.tick(1);
        Check.same("it shows s2", x.slide(0), 2);
        KioskReel y = Check.playing("g0");
        Check.same("a ring ends", y.tick(50), 0);
        Check.same("done in a ring", y.done(), 400);
        Check.same("next in a ring", y.next(0), 100);
    }

    private static void aLineBehindTheLastEndsTheList() {
        KioskReel x = Check.playing("s1 g20");
        x.tick(2);
        Check.same("the list ends at a line it has not", x.done(), 4);
        Check.same("slide", x.slide(0), 1);
        KioskReel y = Check.playing("c1 c2 c3 c4 c5 c6 c7 g20");
        y.tick(1);
        Check.same("next names the line that is not there", y.next(0), 120);
        y.tick(1);
        Check.same("begun anew", y.next(0), 107);
    }

    private static void linesBranchOnVisitors() {
        KioskReel x = Check.row(2);
        x.start(0, Check.list(x, "v3 s1 g0 s2"));
        int visitor = Check.visitorAt(x, 1);
        x.tick(1);
        Check.same("no visitor there", x.slide(0), 2);
        x.go(visitor, 0);
        x.tick(1);
        Check.same("a visitor there", x.slide(0), 1);
        x.go(visitor, -1);
        x.tick(1);
        Check.same("a visitor away", x.slide(0), 2);
    }

    private static void linesCount() {
        KioskReel x = Check.playing("c2 s1 l4 g1 s9");
        Check.same("slides of a loop", x.tick(3), 3);
        Check.same("slide inside", x.slide(0), 1);
        Check.same("count at its end", x.count(0), 0);
        x.tick(1);
        Check.same("slide behind", x.slide(0), 9);
        Check.same("count behind", x.count(0), 0);
        KioskReel y = Check.playing("l3 s1 s2 s3");
        y.tick(1);
        Check.same("l at the count 0", y.slide(0), 3);
        KioskReel z = Check.playing("c99 s1 c0 s1 l5 s4 s5");
        z.tick(1);
        Check.same("c99", z.count(0), 99);
        z.tick(1);
        Check.same("c0", z.count(0), 0);
        z.tick(1);
        Check.same("l5", z.slide(0), 4);
    }

    private static void listsAreCalled() {
        KioskReel x = Check.row(1);
        Check.list(x, "p1 s9");
        Check.list(x, "s1 s2");
        x.start(0, 0);
        x.tick(1);
        Check.same("slide of the called list", x.slide(0), 1);
        Check.same("next in it", x.next(0), 201);
        x.tick(1);
        Check.same("next behind it", x.next(0), 202);
        long before = x.done();
        x.tick(1);
        Check.same("slide behind p", x.slide(0), 9);
        Check.same("taking away is no line", x.done() - before, 1);
        Check.same("next of the first", x.next(0), 102);
    }

    private static void aPileHasFourLists() {
        KioskReel x = Check.row(1);
        x.start(0, Check.list(x, "c1 p0 s5"));
        Check.same("the 8th line calls a 5th", x.tick(1), 0);
        Check.same("four are on it", x.next(0), 402);
        Check.same("a call that does nothing is a line", x.done(), 8);
        Check.same("it goes on behind the call", x.tick(1), 1);
        Check.same("next behind the call", x.next(0), 403);
    }

    private static void listsThatAreMissingAreNotCalled() {
        KioskReel x = Check.playing("p1 p7 s3");
        x.tick(1);
        Check.same("slide behind missing lists", x.slide(0), 3);
        Check.same("done with them", x.done(), 3);
        Check.same("next", x.next(0), 103);
        x.list();
        x.tick(1);
        Check.same("a called list without lines ends", x.next(0), 103);
        Check.same("and is one line", x.done(), 7);
    }

    private static void aMissingListIsNotOnThePile() {
        KioskReel x = Check.playing("c1 c2 c3 c4 c5 c6 c7 p1");
        x.tick(1);
        Check.same("next behind a missing list", x.next(0), 108);
        x.list();
        x.tick(1);
        Check.same("next behind the beginning and seven", x.next(0), 107);
        x.tick(1);
        Check.same("next behind p, a beginning and six", x.next(0), 106);
        KioskReel y = Check.playing("c1 c2 c3 c4 c5 c6 c7 p1");
        y.list();
        y.tick(1);
        Check.same("next in a list without lines", y.next(0), 200);
    }

    private static void endedListsAreTakenAwayInTheNextTurn() {
        KioskReel x = Check.row(1);
        Check.list(x, "p1 w1");
        Check.list(x, "p2");
        Check.list(x, "p3");
        Check.list(x, "s1");
        x.start(0, 0);
        x.tick(1);
        Check.same("a pile of ended lists", x.next(0), 401);
        Check.same("done", x.done(), 4);
        x.tick(1);
        Check.same("all taken away", x.next(0), 102);
        Check.same("done by the w alone", x.done(), 5);
    }

    private static void numbersGoWithTheirLines() {
        KioskReel x = Check.row(1);
        x.list();
        x.line(0, 0, 's', 3);
        x.line(0, 0, 's', 2);
        x.line(0, 0, 's', 9);
        x.line(0, 0, 's', 1);
        x.line(0, 4, 's', 4);
        x.cut(0, 1);
        x.start(0, 0);
        for (int i = 1; i <= 4; i++) {
            x.tick(1);
            Check.same("slide of the line", x.slide(0), i);
        }
    }

    private static void changesWaitForTheNextBeginning() {
        KioskReel x = Check.playing("s1 s2");
        x.line(0, 0, 's', 5);
        x.tick(1);
        Check.same("as at the start", x.slide(0), 1);
        x.cut(0, 0);
        x.cut(0, 1);
        x.line(0, 1, 's', 7);
        x.tick(1);
        Check.same("as at the start still", x.slide(0), 2);
        x.tick(2);
        Check.same("as at the beginning anew", x.slide(0), 7);
        x.cut(0, 0);
        x.cut(0, 0);
        x.tick(1);
        Check.same("begun anew without lines", x.next(0), 100);
    }

    private static void aCalledListHasItsLinesOfTheCall() {
        KioskReel x = Check.row(1);
        Check.list(x, "p1 p1");
        Check.list(x, "s1 s2");
        x.start(0, 0);
        x.tick(1);
        x.cut(1, 0);
        x.cut(1, 0);
        x.line(1, 0, 's', 6);
        x.tick(1);
        Check.same("as at the call", x.slide(0), 2);
        x.tick(1);
        Check.same("as at the second call", x.slide(0), 6);
        KioskReel y = Check.row(1);
        y.start(0, Check.list(y, "w1 p0 s8"));
        y.tick(1);
        y.cut(0, 0);
        y.cut(0, 0);
        y.tick(1);
        Check.same("the same list twice, the upper one anew", y.slide(0), 8);
        Check.same("next in the upper one", y.next(0), 201);
        y.tick(1);
        Check.same("next in the lower one", y.next(0), 103);
    }

    private static void ticksHaveARange() {
        KioskReel x = Check.playing("s1");
        for (int ticks : new int[] {0, -1, 51, Integer.MAX_VALUE, Integer.MIN_VALUE}) {
            Check.refused("tick " + ticks, ARGUMENT, () -> x.tick(ticks));
        }
        Check.same("done by refused ticks", x.done(), 0);
        Check.same("tick 1", x.tick(1), 1);
        Check.same("tick 50", x.tick(50), 50);
    }
}
