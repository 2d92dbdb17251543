import java.util.Arrays;
import java.util.Random;

/** Random runs of 512 calls on a KioskReel and on the Model: each answer must be the same. */
public final class ModelTest {
    private static final int RUNS = 3000;
    private static final String KINDS = "swdfgvlcp";
    private static final int[] MOST = {99, 20, 5, 5, 20, 20, 20, 99, 7};
    /** How often each call comes, by its number in answer. */
    private static final int[] WEIGHTS = {
        5, 60, 8, 3, 5, 25, 8, 20, 12, 3, 8, 8, 10, 4, 8, 60, 8, 8, 8, 5, 25, 20, 8, 3, 1, 1, 1, 1};

    private final Random random;
    private final int slides;
    private final int meanWait;

    private ModelTest(long seed) {
        random = new Random(seed);
        slides = 1 + random.nextInt(seed % 2 == 0 ? 4 : 100);
        meanWait = 1 + random.nextInt(20);
    }

    public static void main(String[] args) {
        for (int seed = 0; seed < RUNS; seed++) {
            new ModelTest(seed).run(seed);
        }
        Check.end();
    }

    private void run(int seed) {
        KioskReel x = new KioskReel();
        Model model = new Model();
        for (int i = 0; i < 512; i++) {
            int[] call = i < 6 ? new int[] {new int[] {0, 4, 0, 4, 19, 4}[i], 0, 0, 0, 0} : call();
            String due = answer(null, model, call);
            String got = answer(x, null, call);
            String what = "run " + seed + ", call " + i + " " + Arrays.toString(call);
            Check.sameText(what, got, due);
            if (!got.equals(due)) {
                return;
            }
        }
    }

    private int[] call() {
        int left = random.nextInt(Arrays.stream(WEIGHTS).sum());
        int which = 0;
        while (left >= WEIGHTS[which]) {
            left -= WEIGHTS[which];
            which++;
        }
        int[] call = {which, number(6), number(6), 0, 0};
        if (which == 1) {
            int kind = random.nextInt(9);
            call = new int[] {1, number(4), number(6), KINDS.charAt(kind), operand(kind)};
        } else if (which == 3) {
            call[2] = KINDS.charAt(random.nextInt(9));
        } else if (which == 15) {
            call[1] = random.nextInt(4) == 0 ? number(51) : 1 + random.nextInt(3);
        } else if (which == 20) {
            call[2] = random.nextInt(8) - 1;
        } else if (which == 21 || which == 22) {
            call[2] = number(slides);
        }
        if ((which == 1 || which == 3) && random.nextInt(40) == 0) {
            call[which == 1 ? 3 : 2] = random.nextInt(65536);
        }
        return call;
    }

    private int operand(int kind) {
        if (kind == 1 && random.nextInt(10) != 0) {
            return 1 + random.nextInt(meanWait);
        }
        int most = kind == 0 ? slides - 1 : kind >= 4 && kind <= 6 ? 7 : kind == 7 ? 5 : MOST[kind];
        return random.nextInt(15) == 0 ? number(MOST[kind] + 1) : random.nextInt(most + 1);
    }

    /** Mostly from 0 on below the bound, sometimes beside or far from it. */
    private int number(int bound) {
        switch (random.nextInt(40)) {
            case 0:
                return -1;
            case 1:
                return bound;
            case 2:
                return random.nextInt();
            default:
                return random.nextInt(bound);
        }
    }

    /** The answer of one of the two, the other being null. */
    static String answer(KioskReel x, Model m, int[] c) {
        try {
            return x == null ? ofModel(m, c) : ofClass(x, c);
        } catch (RuntimeException e) {
            return "throws." + e.getClass().getName();
        }
    }

    private static String ofClass(KioskReel x, int[] c) {
        switch (c[0]) {
            case 0: return "" + x.list();
            case 1: return "" + x.line(c[1], c[2], (char) c[3], c[4]);
            case 2: return "" + x.cut(c[1], c[2]);
            case 3: return "" + x.lines(c[1], (char) c[2]);
            case 4: return "" + x.kiosk();
            case 5: return "" + x.start(c[1], c[2]);
            case 6: return "" + x.stop(c[1]);
            case 7: return "" + x.freeze(c[1]);
            case 8: return "" + x.thaw(c[1]);
            case 9: return "" + x.state(c[1]);
            case 10: return "" + x.plays(c[1]);
            case 11: return "" + x.playerAt(c[1], c[2]);
            case 12: return "" + x.next(c[1]);
            case 13: return "" + x.count(c[1]);
            case 14: return "" + x.waits(c[1]);
            case 15: return "" + x.tick(c[1]);
            case 16: return "" + x.slide(c[1]);
            case 17: return "" + x.holder(c[1]);
            case 18: return "" + x.queued(c[1], c[2]);
            case 19: return "" + x.visitor();
            case 20: return "" + x.go(c[1], c[2]);
            case 21: return "" + x.ask(c[1], c[2]);
            case 22: return "" + x.saw(c[1], c[2]);
            case 23: return "" + x.done();
            case 24: return "" + x.heldShare();
            case 25: return "" + x.heldBits();
            case 26: return "" + x.meanSeen();
            default: return "" + x.isSound();
        }
    }

    private static String ofModel(Model m, int[] c) {
        switch (c[0]) {
            case 0: return "" + m.list();
            case 1: return "" + m.line(c[1], c[2], (char) c[3], c[4]);
            case 2: return "" + m.cut(c[1], c[2]);
            case 3: return "" + m.lines(c[1], (char) c[2]);
            case 4: return "" + m.kiosk();
            case 5: return "" + m.start(c[1], c[2]);
            case 6: return "" + m.stop(c[1]);
            case 7: return "" + m.freeze(c[1]);
            case 8: return "" + m.thaw(c[1]);
            case 9: return "" + m.state(c[1]);
            case 10: return "" + m.plays(c[1]);
            case 11: return "" + m.playerAt(c[1], c[2]);
            case 12: return "" + m.next(c[1]);
            case 13: return "" + m.count(c[1]);
            case 14: return "" + m.waits(c[1]);
            case 15: return "" + m.tick(c[1]);
            case 16: return "" + m.slide(c[1]);
            case 17: return "" + m.holder(c[1]);
            case 18: return "" + m.queued(c[1], c[2]);
            case 19: return "" + m.visitor();
            case 20: return "" + m.go(c[1], c[2]);
            case 21: return "" + m.ask(c[1], c[2]);
            case 22: return "" + m.saw(c[1], c[2]);
            case 23: return "" + m.done();
            case 24: return "" + m.heldShare();
            case 25: return "" + m.heldBits();
            case 26: return "" + m.meanSeen();
            default: return "" + m.isSound();
        }
    }
}
