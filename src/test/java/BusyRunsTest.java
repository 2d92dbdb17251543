import java.util.Arrays;
import java.util.Random;

/**
 * Random runs on a KioskReel and on the Model that begin with a player on every kiosk, visitors,
 * and few slides and devices, which they share. In the end all that can be asked for is asked.
 */
public final class BusyRunsTest {
    private static final int RUNS = 3000;
    private static final String KINDS = "swdfgvlcp";
    /** Which kinds the lines of a list have, by how often they come here. */
    private static final String LINES = "ssssswwddddfffgvvllccppp";
    /** Which calls come, by their numbers in ModelTest.answer and how often they stand here. */
    private static final int[] CALLS = {
        15, 15, 15, 15, 15, 15, 15, 15, 7, 7, 7, 7, 8, 8, 8, 20, 20, 21, 21, 5, 5, 6, 1, 1, 2, 4,
        0, 19, 10, 11, 12, 13, 14, 16, 17, 18, 22};

    private final String what;
    private final Random random;
    private final KioskReel x = new KioskReel();
    private final Model model = new Model();
    private final int slides;
    private final int devices;
    private int calls;
    private boolean alike = true;

    private BusyRunsTest(int seed) {
        what = "busy run " + seed + ", call ";
        random = new Random(seed);
        slides = 1 + random.nextInt(6);
        devices = 1 + random.nextInt(6);
    }

    public static void main(String[] args) {
        for (int seed = 0; seed < RUNS; seed++) {
            new BusyRunsTest(seed).run();
        }
        Check.end();
    }

    private void run() {
        fill();
        int steps = random.nextInt(200);
        for (int i = 0; i < steps; i++) {
            step();
        }
        askAll();
        Check.same(what + "the last one is not behind the 512th", calls <= 512, true);
    }

    /** Makes a call on both, until an answer is not as due. */
    private void make(int... call) {
        if (alike) {
            int[] whole = Arrays.copyOf(call, 5);
            String due = ModelTest.answer(null, model, whole);
            String got = ModelTest.answer(x, null, whole);
            Check.sameText(what + calls + " " + Arrays.toString(call), got, due);
            alike = got.equals(due);
            calls++;
        }
    }

    private void fill() {
        int lists = 2 + random.nextInt(7);
        for (int i = 0; i < lists; i++) {
            make(0);
            int lines = random.nextInt(10);
            for (int k = 0; k < lines; k++) {
                putLine(i, k);
            }
        }
        int kiosks = 1 + random.nextInt(6);
        for (int i = 0; i < kiosks; i++) {
            make(4);
            make(5, i, random.nextInt(lists));
        }
        int visitors = random.nextInt(6);
        for (int i = 0; i < visitors; i++) {
            make(19);
            make(20, i, random.nextInt(kiosks + 1) - 1);
        }
    }

    private void putLine(int list, int place) {
        char kind = LINES.charAt(random.nextInt(LINES.length()));
        make(1, list, place, kind, operand(kind));
    }

    private int operand(char kind) {
        switch (kind) {
            case 's':
                return random.nextInt(slides);
            case 'w':
                return 1 + random.nextInt(random.nextInt(4) == 0 ? 20 : 3);
            case 'd':
            case 'f':
                return random.nextInt(devices);
            case 'c':
                return random.nextInt(4);
            case 'p':
                return random.nextInt(8);
            default:
                return random.nextInt(10);
        }
    }

    private void step() {
        int which = CALLS[random.nextInt(CALLS.length)];
        if (which == 15) {
            make(which, 1 + random.nextInt(3));
        } else if (which == 1) {
            putLine(random.nextInt(4), random.nextInt(5));
        } else if (which == 20) {
            make(which, random.nextInt(6), random.nextInt(7) - 1);
        } else if (which == 21 || which == 22) {
            make(which, random.nextInt(6), random.nextInt(slides));
        } else if (which == 5) {
            startOneWithout();
        } else {
            make(which, random.nextInt(6), random.nextInt(4));
        }
    }

    /** Starts the player of the first kiosk, from a random one on, that has none. */
    private void startOneWithout() {
        int first = random.nextInt(6);
        for (int i = 0; i < 6; i++) {
            int kiosk = (first + i) % 6;
            String where = ModelTest.answer(null, model, new int[] {10, kiosk, 0, 0, 0});
            if (where.endsWith("NoSuchElementException")) {
                make(5, kiosk, random.nextInt(4));
                return;
            }
        }
    }

    private void askAll() {
        for (int which = 23; which <= 27; which++) {
            make(which);
        }
        for (int i = 0; i < 6; i++) {
            for (int which : new int[] {9, 10, 12, 13, 14, 16, 17}) {
                make(which, i);
            }
            for (int index = 0; index < 6; index++) {
                make(11, i, index);
                make(18, i, index);
            }
        }
        for (int i = 0; i < 4; i++) {
            make(3, i, KINDS.charAt(random.nextInt(9)));
        }
        for (int i = 0; i < 10; i++) {
            make(22, i, random.nextInt(slides));
        }
    }
}
