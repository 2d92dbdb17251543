import java.util.NoSuchElementException;

/** Promises 18 and 21 to 24: visitors, what they see and ask for. */
public final class VisitorsTest {
    private static final Class<IndexOutOfBoundsException> BOUNDS = IndexOutOfBoundsException.class;
    private static final Class<IllegalArgumentException> ARGUMENT = IllegalArgumentException.class;

    public static void main(String[] args) {
        thereAreTenVisitors();
        visitorsGo();
        wrongVisitorsAreRefused();
        visitorsSeeSlidesOnce();
        slidesSeenByAllAreNotShown();
        oneWhoHasNotSeenItIsEnough();
        visitorsAskAgain();
        askingAheadIsUsedUpBySeeing();
        visitorsSawItWherever();
        slidesAreThoseOfWhereThePlayerPlays();
        Check.end();
    }

    private static void thereAreTenVisitors() {
        KioskReel x = new KioskReel();
        for (int i = 0; i < 10; i++) {
            Check.same("visitor", x.visitor(), i);
        }
        Check.refused("the 11th visitor", IllegalStateException.class, x::visitor);
        Check.same("saw of the last", x.saw(9, 0), 0);
        Check.refused("saw of one who was refused", BOUNDS, () -> x.saw(10, 0));
    }

    private static void visitorsGo() {
        KioskReel x = Check.row(2);
        x.visitor();
        x.visitor();
        Check.same("away at first", x.go(1, 1), -1);
        Check.same("from 1", x.go(1, 0), 1);
        Check.same("from 0 to 0", x.go(1, 0), 0);
        Check.same("from 0 away", x.go(1, -1), 0);
        Check.same("from away", x.go(1, -1), -1);
        Check.same("the other one", x.go(0, 0), -1);
    }

    private static void wrongVisitorsAreRefused() {
        KioskReel x = Check.row(2);
        x.visitor();
        x.go(0, 1);
        for (int visitor : new int[] {-1, 1, 10, Integer.MAX_VALUE, Integer.MIN_VALUE}) {
            Check.refused("go " + visitor, BOUNDS, () -> x.go(visitor, 0));
            Check.refused("go away " + visitor, BOUNDS, () -> x.go(visitor, -1));
            Check.refused("ask " + visitor, BOUNDS, () -> x.ask(visitor, 0));
            Check.refused("ask 100 " + visitor, BOUNDS, () -> x.ask(visitor, 100));
            Check.refused("saw " + visitor, BOUNDS, () -> x.saw(visitor, 0));
            Check.refused("saw -1 " + visitor, BOUNDS, () -> x.saw(visitor, -1));
        }
        for (int kiosk : new int[] {-2, 2, 6, Integer.MAX_VALUE, Integer.MIN_VALUE}) {
            Check.refused("go to " + kiosk, BOUNDS, () -> x.go(0, kiosk));
        }
        for (int slide : new int[] {-1, 100, Integer.MAX_VALUE, Integer.MIN_VALUE}) {
            Check.refused("ask for " + slide, ARGUMENT, () -> x.ask(0, slide));
            Check.refused("saw of " + slide, ARGUMENT, () -> x.saw(0, slide));
        }
        Check.same("it stayed", x.go(0, 0), 1);
    }

    private static void visitorsSeeSlidesOnce() {
        KioskReel x = Check.playing("s99 s0");
        int there = Check.visitorAt(x, 0);
        int away = x.visitor();
        Check.same("slide 99", x.tick(1), 1);
        Check.same("saw 99", x.saw(there, 99), 1);
        Check.same("not yet 0", x.saw(there, 0), 0);
        Check.same("slide 0", x.tick(1), 1);
        Check.same("saw 0", x.saw(there, 0), 1);
        Check.same("who was away", x.saw(away, 99), 0);
        Check.same("without news", x.tick(20), 0);
        Check.same("saw 99 in the end", x.saw(there, 99), 1);
        Check.same("the slide stays", x.slide(0), 0);
    }

    private static void slidesSeenByAllAreNotShown() {
        KioskReel x = Check.playing("s1 s2 s1 s3 w1");
        int visitor = Check.visitorAt(x, 0);
        Check.same("three in three ticks", x.tick(3), 3);
        Check.same("the line in between was done", x.done(), 4);
        Check.same("slide", x.slide(0), 3);
        Check.same("next", x.next(0), 104);
        Check.same("all seen", x.tick(2), 0);
        Check.same("the slide is left", x.slide(0), 3);
        x.go(visitor, -1);
        Check.same("shown without visitors", x.tick(1), 1);
        Check.same("slide without visitors", x.slide(0), 1);
        Check.same("nobody saw it", x.saw(visitor, 1), 1);
    }

    private static void oneWhoHasNotSeenItIsEnough() {
        KioskReel x = Check.playing("s1");
        int first = Check.visitorAt(x, 0);
        x.tick(2);
        int second = Check.visitorAt(x, 0);
        int third = Check.visitorAt(x, 0);
        Check.same("shown for the others", x.tick(1), 1);
        Check.same("the first did not see it again", x.saw(first, 1), 1);
        Check.same("the second saw it", x.saw(second, 1), 1);
        Check.same("the third saw it", x.saw(third, 1), 1);
        Check.same("and that was it", x.tick(5), 0);
    }

    private static void visitorsAskAgain() {
        KioskReel x = Check.playing("s1 s2");
        int visitor = Check.visitorAt(x, 0);
        int other = Check.visitorAt(x, 0);
        x.tick(5);
        Check.same("ask for what it saw", x.ask(visitor, 1), true);
        Check.same("ask twice", x.ask(visitor, 1), true);
        Check.same("shown again", x.tick(5), 1);
        Check.same("saw it twice", x.saw(visitor, 1), 2);
        Check.same("the other one did not", x.saw(other, 1), 1);
        Check.same("asked twice, seen once", x.tick(5), 0);
        Check.same("sound", x.isSound(), true);
        x.ask(visitor, 1);
        x.tick(5);
        Check.same("saw it thrice", x.saw(visitor, 1), 3);
        Check.same("sound still", x.isSound(), true);
    }

    private static void askingAheadIsUsedUpBySeeing() {
        KioskReel x = Check.playing("s1");
        int visitor = x.visitor();
        Check.same("ask ahead", x.ask(visitor, 1), false);
        Check.same("ask ahead again", x.ask(visitor, 1), false);
        x.go(visitor, 0);
        Check.same("shown once", x.tick(5), 1);
        Check.same("seen once", x.saw(visitor, 1), 1);
        Check.same("asking now tells it", x.ask(visitor, 1), true);
    }

    private static void visitorsSawItWherever() {
        KioskReel x = Check.row(2);
        int list = Check.list(x, "s1 w1");
        x.start(0, list);
        int visitor = Check.visitorAt(x, 0);
        x.tick(1);
        x.go(visitor, 1);
        x.start(1, list);
        x.tick(4);
        Check.refused("shown at the other kiosk", NoSuchElementException.class, () -> x.slide(1));
        Check.same("saw", x.saw(visitor, 1), 1);
        x.ask(visitor, 1);
        x.tick(4);
        Check.same("asked for there", x.slide(1), 1);
        Check.same("saw again", x.saw(visitor, 1), 2);
    }

    private static void slidesAreThoseOfWhereThePlayerPlays() {
        KioskReel x = Check.row(2);
        x.start(1, Check.list(x, "s5"));
        x.freeze(1);
        x.tick(5);
        int near = Check.visitorAt(x, 0);
        int home = Check.visitorAt(x, 1);
        Check.same("shown", x.tick(1), 1);
        Check.same("slide where it plays", x.slide(0), 5);
        Check.refused("slide at its own kiosk", NoSuchElementException.class, () -> x.slide(1));
        Check.same("saw near", x.saw(near, 5), 1);
        Check.same("saw at its own kiosk", x.saw(home, 5), 0);
        x.stop(1);
        Check.same("the slide stays", x.slide(0), 5);
    }
}
