import java.util.ArrayList;
import java.util.List;
import java.util.NoSuchElementException;

/** What the tests of edges share: the sentence that is tested, ranges, and refused calls. */
final class Edge {
    static final Class<IndexOutOfBoundsException> BOUNDS = IndexOutOfBoundsException.class;
    static final Class<IllegalArgumentException> ARGUMENT = IllegalArgumentException.class;
    static final Class<IllegalStateException> STATE = IllegalStateException.class;
    static final Class<NoSuchElementException> MISSING = NoSuchElementException.class;
    static final Class<ArithmeticException> ARITHMETIC = ArithmeticException.class;

    /** The sentences that were tested so far, and their promises. */
    private static final List<String> SENTENCES = new ArrayList<>();
    private static final List<Integer> PROMISES = new ArrayList<>();
    private static int askedBefore = -1;

    private Edge() {
    }

    interface Step {
        void on(KioskReel x);
    }

    interface Numbered {
        void on(KioskReel x, int number);
    }

    /** Names the promise and the sentence of the document that is tested from here on. */
    static void names(int promise, String sentence) {
        close();
        PROMISES.add(promise);
        SENTENCES.add(sentence);
        Check.setHeading("promise " + promise + ", \"" + sentence + "\": ");
        askedBefore = Check.asked();
    }

    /** Ends the sentence that was named last; one for which nothing was asked is not tested. */
    static void close() {
        if (Check.asked() == askedBefore) {
            Check.same("questions asked for it", 0, 1);
        }
        Check.setHeading("");
        askedBefore = -1;
    }

    static List<String> sentences() {
        return SENTENCES;
    }

    static List<Integer> promises() {
        return PROMISES;
    }

    static KioskReel made(Step setup) {
        KioskReel x = new KioskReel();
        setup.on(x);
        return x;
    }

    /** The call is refused with this exception, and no later call shows that it was made. */
    static void refused(String what, Class<? extends RuntimeException> due, Step setup, Step call) {
        for (Trace.Reader reader : Trace.READERS) {
            KioskReel x = made(setup);
            Check.refused(what, due, () -> call.on(x));
            Check.sameText(what + ", seen later", Trace.of(x, reader),
                    Trace.of(made(setup), reader));
        }
    }

    /** No later call shows that this one, which is not refused, was made. */
    static void leavesAsItWas(String what, Step setup, Step call) {
        for (Trace.Reader reader : Trace.READERS) {
            KioskReel x = made(setup);
            call.on(x);
            Check.sameText(what + ", seen later", Trace.of(x, reader),
                    Trace.of(made(setup), reader));
        }
    }

    /** The call throws nothing. */
    static void taken(String what, Step setup, Step call) {
        KioskReel x = made(setup);
        String got = "nothing";
        try {
            call.on(x);
        } catch (RuntimeException e) {
            got = e.getClass().getName();
        }
        Check.sameText(what + " throws", got, "nothing");
    }

    /** Each number from least to most is taken, others are refused; most may be least - 1. */
    static void range(String what, Class<? extends RuntimeException> due, int least, int most,
            Step setup, Numbered call) {
        for (int i = least; i <= most; i++) {
            int number = i;
            taken(what + " " + number, setup, x -> call.on(x, number));
        }
        int[] outside = {least - 1, most + 1, least + 256, least + 65536, least - 256,
            Integer.MAX_VALUE, Integer.MIN_VALUE};
        for (int number : outside) {
            refused(what + " " + number, due, setup, x -> call.on(x, number));
        }
    }

    /** The slides of the next ticks at kiosk 0, like "1 2 - 3", with - where none is shown. */
    static String slides(KioskReel x, int ticks) {
        StringBuilder text = new StringBuilder();
        for (int i = 0; i < ticks; i++) {
            text.append(i == 0 ? "" : " ");
            if (x.tick(1) == 0) {
                text.append('-');
            } else {
                text.append(x.slide(0));
            }
        }
        return text.toString();
    }

    static void tick(KioskReel x, int times) {
        for (int i = 0; i < times; i++) {
            x.tick(1);
        }
    }
}
