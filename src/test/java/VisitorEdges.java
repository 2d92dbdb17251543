/** Promises 21 to 24, and the terms of visitors, at their edges. */
final class VisitorEdges {
    private VisitorEdges() {
    }

    static void run() {
        visitorsAreAdded();
        visitorsGo();
        argumentsOfGo();
        visitorsAsk();
        argumentsOfAsk();
        visitorsSaw();
        argumentsOfSaw();
        severalExceptions();
    }

    private static void visitors(KioskReel x, int visitors) {
        for (int i = 0; i < visitors; i++) {
            x.visitor();
        }
    }

    private static void visitorsAreAdded() {
        Edge.names(21, "Adds a visitor, away.");
        KioskReel x = Check.row(1);
        for (int i = 0; i < 10; i++) {
            int visitor = x.visitor();
            Check.same("slides it saw", x.saw(visitor, 0), 0);
            Check.same("where it was", x.go(visitor, 0), -1);
        }
        Edge.names(21, "Returns its number.");
        KioskReel y = new KioskReel();
        for (int i = 0; i < 10; i++) {
            Check.same("visitor", y.visitor(), i);
        }
        Edge.names(21, "Throws `IllegalStateException` if there are 10");
        Edge.taken("the 10th visitor", z -> visitors(z, 9), KioskReel::visitor);
        Edge.refused("the 11th visitor", Edge.STATE, z -> visitors(z, 10), KioskReel::visitor);
        Edge.refused("the 11th of a full row", Edge.STATE, Rows::full, KioskReel::visitor);
        Edge.names(21, "At most 10 visitors have numbers from 0 on");
        Check.refused("one more", Edge.STATE, y::visitor);
        Check.refused("visitor -1", Edge.BOUNDS, () -> y.saw(-1, 0));
        Check.same("visitor 0", y.saw(0, 0), 0);
        Check.same("visitor 9", y.saw(9, 99), 0);
        Check.refused("visitor 10", Edge.BOUNDS, () -> y.saw(10, 0));
        Edge.names(21, "each is at a kiosk, or away, as at first.");
        KioskReel away = Check.playing("v2 s1 s2");
        away.visitor();
        away.tick(1);
        Check.same("nobody at kiosk 0", away.slide(0), 2);
        Check.same("one who is away sees nothing", away.saw(0, 2), 0);
    }

    private static void visitorsGo() {
        Edge.names(22, "Lets a visitor go to a kiosk, or away.");
        KioskReel x = Check.row(6);
        for (int i = 0; i < 6; i++) {
            x.start(i, Check.list(x, "s" + i));
        }
        x.visitor();
        for (int i = 0; i < 6; i++) {
            x.go(0, i);
            x.tick(1);
            for (int slide = 0; slide < 6; slide++) {
                Check.same("saw of " + slide + " at " + i, x.saw(0, slide), slide <= i ? 1 : 0);
            }
        }
        x.go(0, -1);
        x.ask(0, 5);
        Check.same("slides with one who is away", x.tick(1), 6);
        Check.same("who sees nothing", x.saw(0, 5), 1);
        Edge.names(22, "Returns where it was.");
        KioskReel y = Check.row(6);
        y.visitor();
        y.visitor();
        int before = -1;
        for (int kiosk : new int[] {0, 5, 5, -1, -1, 3, 0, -1, 5}) {
            Check.same("before " + kiosk, y.go(1, kiosk), before);
            before = kiosk;
        }
        Check.same("the other one", y.go(0, 0), -1);
        KioskEdges.makeOut(y, 5);
        Check.same("it stays at a kiosk that is out", y.go(1, 5), 5);
    }

    private static void argumentsOfGo() {
        Edge.names(22, "`visitor`: the visitor");
        Edge.range("visitor", Edge.BOUNDS, 0, 9, Rows::full, (x, n) -> x.go(n, 0));
        Edge.range("visitor, away", Edge.BOUNDS, 0, 1, Rows::bare, (x, n) -> x.go(n, -1));
        Edge.range("visitor of none", Edge.BOUNDS, 0, -1, KioskReel::kiosk, (x, n) -> x.go(n, -1));
        Edge.names(22, "`kiosk`: the kiosk, or -1 for away");
        Edge.range("kiosk", Edge.BOUNDS, -1, 5, Rows::full, (x, n) -> x.go(3, n));
        Edge.range("kiosk of four", Edge.BOUNDS, -1, 3, Rows::bare, (x, n) -> x.go(0, n));
        Edge.range("kiosk of none", Edge.BOUNDS, -1, -1, KioskReel::visitor, (x, n) -> x.go(0, n));
        Edge.names(22, "Throws `IndexOutOfBoundsException` if there is no such visitor, or no such "
                + "kiosk, and it is not -1");
        Edge.refused("kiosk -2", Edge.BOUNDS, Rows::busy, x -> x.go(0, -2));
        Edge.refused("kiosk 5", Edge.BOUNDS, Rows::busy, x -> x.go(0, 5));
        Edge.refused("visitor 4", Edge.BOUNDS, Rows::busy, x -> x.go(4, 0));
        Edge.refused("visitor -1, away", Edge.BOUNDS, Rows::busy, x -> x.go(-1, -1));
    }

    private static void visitorsAsk() {
        Edge.names(23, "Lets a visitor ask for a slide, whether it saw it or not, until it sees it "
                + "next.");
        for (int times = 0; times <= 3; times++) {
            KioskReel x = Check.playing("s1 w1");
            Check.visitorAt(x, 0);
            for (int i = 0; i < times; i++) {
                Check.same("ask ahead", x.ask(0, 1), false);
            }
            Check.same("shown once, asked ahead " + times, x.tick(6), 1);
            Check.same("saw", x.saw(0, 1), 1);
            for (int i = 0; i < times; i++) {
                Check.same("ask again", x.ask(0, 1), true);
            }
            Check.same("shown again, asked " + times, x.tick(6), times > 0 ? 1 : 0);
            Check.same("saw again", x.saw(0, 1), times > 0 ? 2 : 1);
            Check.same("then not", x.tick(6), 0);
        }
        KioskReel y = Check.row(2);
        y.start(0, Check.list(y, "s1 s2 w1"));
        Check.visitorAt(y, 0);
        Check.visitorAt(y, 0);
        y.tick(3);
        y.ask(1, 2);
        Check.same("of the other slide, of the other one", y.tick(6), 1);
        Check.sameText("who saw what", "" + y.saw(0, 1) + y.saw(0, 2) + y.saw(1, 1) + y.saw(1, 2),
                "1112");
        y.ask(0, 1);
        y.go(0, 1);
        Check.same("not where it is", y.tick(6), 0);
        y.go(0, 0);
        Check.same("it has not seen it yet, and asks still", y.tick(6), 1);
        Check.same("saw it then", y.saw(0, 1), 2);
        Edge.names(23, "Returns whether it had seen it.");
        Check.same("one that was seen", y.ask(1, 2), true);
        Check.same("asked for again", y.ask(1, 2), true);
        Check.same("one that was not", y.ask(1, 3), false);
        Check.same("asked for again, not seen", y.ask(1, 3), false);
        Check.same("asked by another", y.ask(0, 3), false);
        KioskReel ends = Check.playing("s0 s99");
        Check.visitorAt(ends, 0);
        ends.tick(1);
        Check.same("slide 0", ends.ask(0, 0), true);
        Check.same("slide 99", ends.ask(0, 99), false);
        ends.tick(1);
        Check.same("slide 99, seen", ends.ask(0, 99), true);
        Check.same("slide 98", ends.ask(0, 98), false);
    }

    private static void argumentsOfAsk() {
        Edge.names(23, "`visitor`: the visitor");
        Edge.range("visitor", Edge.BOUNDS, 0, 9, Rows::full, (x, n) -> x.ask(n, 0));
        Edge.range("visitor of none", Edge.BOUNDS, 0, -1, KioskReel::kiosk, (x, n) -> x.ask(n, 0));
        Edge.names(23, "`slide`: the slide, 0 to 99");
        Edge.range("slide", Edge.ARGUMENT, 0, 99, Rows::full, (x, n) -> x.ask(9, n));
        Edge.names(23, "Throws `IndexOutOfBoundsException` if there is no such visitor");
        Edge.refused("visitor 4", Edge.BOUNDS, Rows::busy, x -> x.ask(4, 5));
        Edge.refused("visitor -1", Edge.BOUNDS, Rows::busy, x -> x.ask(-1, 5));
        Edge.names(23, "Throws `IllegalArgumentException` if there is no such slide");
        Edge.refused("slide 100", Edge.ARGUMENT, Rows::busy, x -> x.ask(0, 100));
        Edge.refused("slide -1", Edge.ARGUMENT, Rows::busy, x -> x.ask(1, -1));
        for (int slide : new int[] {-1, 100, Integer.MAX_VALUE, Integer.MIN_VALUE}) {
            Edge.refused("slide " + slide + " of one who saw 0 and 99", Edge.ARGUMENT,
                    VisitorEdges::endsSeen, x -> x.ask(0, slide));
        }
    }

    /** A visitor who saw the slides 0 and 99, which are played again and again. */
    private static void endsSeen(KioskReel x) {
        x.kiosk();
        x.start(0, Check.list(x, "s0 s99 w1"));
        Check.visitorAt(x, 0);
        x.tick(3);
    }

    private static void visitorsSaw() {
        Edge.names(24, "Returns how often a visitor saw a slide.");
        KioskReel x = Check.playing("s0 s99 w1");
        Check.visitorAt(x, 0);
        Check.same("slide 0 before", x.saw(0, 0), 0);
        x.tick(1);
        Check.same("slide 0", x.saw(0, 0), 1);
        Check.same("slide 99 before", x.saw(0, 99), 0);
        x.tick(1);
        Check.same("slide 99", x.saw(0, 99), 1);
        Check.same("slide 98", x.saw(0, 98), 0);
        Check.same("slide 1", x.saw(0, 1), 0);
        Edge.leavesAsItWas("asking what it saw", Rows::busy, y -> y.saw(0, 5));
        Edge.names(24, "Returns how often.");
        x.tick(10);
        Check.same("not again by itself", x.saw(0, 99), 1);
        for (int i = 2; i <= 40; i++) {
            x.ask(0, 99);
            x.tick(3);
            Check.same("times", x.saw(0, 99), i);
        }
        Check.same("the other slide", x.saw(0, 0), 1);
        int late = x.visitor();
        Check.same("a new visitor", x.saw(late, 99), 0);
    }

    private static void argumentsOfSaw() {
        Edge.names(24, "`visitor`: the visitor");
        Edge.range("visitor", Edge.BOUNDS, 0, 9, Rows::full, (x, n) -> x.saw(n, 0));
        Edge.range("visitor of none", Edge.BOUNDS, 0, -1, KioskReel::kiosk, (x, n) -> x.saw(n, 0));
        Edge.names(24, "`slide`: the slide, 0 to 99");
        Edge.range("slide", Edge.ARGUMENT, 0, 99, Rows::full, (x, n) -> x.saw(9, n));
        Edge.names(24, "Throws `IndexOutOfBoundsException` if there is no such visitor");
        Edge.refused("visitor 4", Edge.BOUNDS, Rows::busy, x -> x.saw(4, 5));
        Edge.refused("visitor -1", Edge.BOUNDS, Rows::busy, x -> x.saw(-1, 5));
        Edge.names(24, "Throws `IllegalArgumentException` if there is no such slide");
        Edge.refused("slide 100", Edge.ARGUMENT, Rows::busy, x -> x.saw(0, 100));
        Edge.refused("slide -1", Edge.ARGUMENT, Rows::busy, x -> x.saw(1, -1));
    }

    private static void severalExceptions() {
        String first = "If several exceptions apply, the one that is documented first is thrown.";
        Edge.names(23, first);
        Edge.refused("ask: visitor and slide", Edge.BOUNDS, Rows::busy, x -> x.ask(4, 100));
        Edge.refused("ask: no visitors, slide", Edge.BOUNDS, Rows::untouched, x -> x.ask(0, -1));
        Edge.names(24, first);
        Edge.refused("saw: visitor and slide", Edge.BOUNDS, Rows::busy, x -> x.saw(-1, -1));
        Edge.refused("saw: no visitors, slide", Edge.BOUNDS, Rows::untouched, x -> x.saw(0, 100));
    }
}
