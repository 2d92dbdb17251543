/** Promises 25 to 29: done, heldShare, heldBits, meanSeen, isSound. */
public final class FiguresTest {
    public static void main(String[] args) {
        linesDoneAreCounted();
        theHeldShareIsTold();
        theMeanIsTold();
        soundnessHolds();
        aFullObjectAnswers();
        Check.end();
    }

    private static void linesDoneAreCounted() {
        KioskReel x = Check.row(2);
        x.start(0, Check.list(x, "c1 s1"));
        x.start(1, Check.list(x, "p2 p7 w3"));
        Check.same("at first", x.done(), 0);
        x.tick(1);
        Check.same("of both", x.done(), 5);
        x.stop(0);
        Check.same("with one that was stopped", x.done(), 5);
        x.tick(2);
        Check.same("waiting is no line", x.done(), 5);
        x.tick(1);
        Check.same("with a beginning anew", x.done(), 9);
        KioskReel y = Check.row(6);
        int list = y.list();
        for (int i = 0; i < 6; i++) {
            y.start(i, list);
        }
        for (int i = 0; i < 20; i++) {
            y.tick(50);
        }
        Check.same("many", y.done(), 6L * 8 * 50 * 20);
    }

    private static void theHeldShareIsTold() {
        KioskReel x = Check.row(2);
        x.start(0, Check.list(x, "d0 w1 d1 w1 d2 w20"));
        x.start(1, Check.list(x, "w3 d3 w1 d4 w1 d5 w20"));
        for (int held = 0; held <= 6; held++) {
            float due = (float) held / (float) 6;
            Check.sameDouble("share of " + held, x.heldShare(), due);
            Check.same("bits of " + held, x.heldBits(), Float.floatToIntBits(due));
            x.tick(1);
        }
        x.stop(0);
        Check.sameDouble("share after a stop", x.heldShare(), 0.5f);
        x.stop(1);
        Check.same("bits in the end", x.heldBits(), 0);
    }

    private static void theMeanIsTold() {
        KioskReel x = Check.playing("s1 s2 s99 s0 w1");
        Check.refused("without visitors", ArithmeticException.class, x::meanSeen);
        Check.visitorAt(x, 0);
        Check.sameDouble("before", x.meanSeen(), 0.0);
        x.tick(4);
        Check.sameDouble("of one", x.meanSeen(), 4.0);
        x.visitor();
        Check.sameDouble("of two", x.meanSeen(), 2.0);
        x.visitor();
        Check.sameDouble("of three", x.meanSeen(), 4.0 / 3.0);
        x.ask(0, 99);
        x.tick(10);
        Check.sameDouble("with one seen again", x.meanSeen(), 5.0 / 3.0);
    }

    private static void soundnessHolds() {
        KioskReel x = Check.row(6);
        Check.same("of a row", x.isSound(), true);
        int first = Check.list(x, "d0 d1 d2 d3 w2 f1 s1");
        int second = Check.list(x, "d1 d5 d0 s2 f5 f1 d4 d3 w1");
        for (int i = 0; i < 6; i++) {
            x.start(i, i % 2 == 0 ? first : second);
            Check.visitorAt(x, i);
        }
        for (int i = 0; i < 40; i++) {
            x.tick(1);
            x.ask(i % 6, i % 3);
            if (i % 7 == 0) {
                x.stop(i % 6);
                x.start(i % 6, second);
            }
            Check.same("at tick " + i, x.isSound(), true);
        }
    }

    private static void aFullObjectAnswers() {
        KioskReel x = Check.row(6);
        for (int i = 0; i < 8; i++) {
            x.list();
            for (int k = 0; k < 20; k++) {
                x.line(i, k, k % 2 == 0 ? 's' : 'v', k % 2 == 0 ? 20 * (i % 5) + k : 0);
            }
        }
        for (int i = 0; i < 6; i++) {
            x.start(i, i);
        }
        for (int i = 0; i < 10; i++) {
            Check.visitorAt(x, i % 6);
        }
        Check.same("ticks with ten visitors", x.tick(50), 60);
        Check.same("done", x.done(), 6 * (10 + 9 + 40 * 8));
        Check.sameDouble("mean", x.meanSeen(), 10.0);
        Check.same("lines of a full list", x.lines(7, 'v'), 10);
        for (int i = 0; i < 6; i++) {
            x.freeze(i);
        }
        x.tick(5);
        Check.same("all of them come", x.thaw(5), 6);
        Check.sameText("their order", Check.playersAt(x, 5), "5 0 1 2 3 4");
        Check.same("sound", x.isSound(), true);
    }
}
