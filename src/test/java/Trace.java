import java.util.function.Supplier;

/** What calls show of an object: each trace makes fewer than 310 calls, some of which change it. */
final class Trace {
    private static final int[] SLIDES = {0, 1, 2, 5, 6, 7, 8, 19, 50, 98, 99};

    interface Reader {
        void read(KioskReel x, StringBuilder text);
    }

    static final Reader[] READERS = {
        Trace::figures, Trace::row, Trace::seen, Trace::linesCut, Trace::linesPut, Trace::played,
        Trace::playedFar, Trace::visited, Trace::askedFor, Trace::added, Trace::frozen,
        Trace::thawed, Trace::stopped, Trace::replayed,
    };

    private Trace() {
    }

    static String of(KioskReel x, Reader reader) {
        StringBuilder text = new StringBuilder();
        reader.read(x, text);
        return text.toString();
    }

    private static void tell(StringBuilder text, Supplier<Object> call) {
        try {
            text.append(call.get());
        } catch (RuntimeException e) {
            text.append(e.getClass().getSimpleName());
        }
        text.append(' ');
    }

    private static void figures(KioskReel x, StringBuilder text) {
        tell(text, x::done);
        tell(text, x::heldShare);
        tell(text, x::heldBits);
        tell(text, x::meanSeen);
        tell(text, x::isSound);
        for (int i = 0; i < 6; i++) {
            int device = i;
            tell(text, () -> x.holder(device));
            tell(text, () -> Check.queueOf(x, device));
        }
    }

    private static void row(KioskReel x, StringBuilder text) {
        for (int i = 0; i < 6; i++) {
            int kiosk = i;
            tell(text, () -> x.state(kiosk));
            tell(text, () -> x.plays(kiosk));
            tell(text, () -> Check.playersAt(x, kiosk));
            player(x, kiosk, text);
        }
    }

    private static void player(KioskReel x, int kiosk, StringBuilder text) {
        tell(text, () -> x.slide(kiosk));
        tell(text, () -> x.next(kiosk));
        tell(text, () -> x.count(kiosk));
        tell(text, () -> x.waits(kiosk));
    }

    private static void seen(KioskReel x, StringBuilder text) {
        for (int i = 0; i < 10; i++) {
            int visitor = i;
            for (int slide : SLIDES) {
                tell(text, () -> x.saw(visitor, slide));
            }
            tell(text, () -> x.go(visitor, -1));
        }
    }

    private static void linesCut(KioskReel x, StringBuilder text) {
        for (int i = 0; i < 8; i++) {
            int list = i;
            for (char kind : "swdfgvlcp".toCharArray()) {
                tell(text, () -> x.lines(list, kind));
            }
            for (int k = 0; k < 21; k++) {
                tell(text, () -> x.cut(list, 0));
            }
        }
    }

    private static void linesPut(KioskReel x, StringBuilder text) {
        for (int i = 0; i < 8; i++) {
            int list = i;
            for (int k = 0; k < 21; k++) {
                tell(text, () -> x.line(list, 0, 'c', 1));
            }
        }
    }

    private static void played(KioskReel x, StringBuilder text) {
        for (int i = 0; i < 9; i++) {
            tell(text, () -> x.tick(1));
            for (int kiosk = 0; kiosk < 6; kiosk++) {
                player(x, kiosk, text);
            }
        }
        figures(x, text);
    }

    private static void playedFar(KioskReel x, StringBuilder text) {
        for (int i = 0; i < 3; i++) {
            tell(text, () -> x.tick(7));
            row(x, text);
        }
    }

    private static void visited(KioskReel x, StringBuilder text) {
        for (int i = 0; i < 10; i++) {
            int visitor = i;
            tell(text, () -> x.go(visitor, visitor % 6));
        }
        for (int i = 0; i < 6; i++) {
            tell(text, () -> x.tick(2));
            tell(text, x::meanSeen);
        }
        seen(x, text);
    }

    private static void askedFor(KioskReel x, StringBuilder text) {
        for (int i = 0; i < 10; i++) {
            int visitor = i;
            for (int slide : SLIDES) {
                tell(text, () -> x.ask(visitor, slide));
            }
        }
        tell(text, () -> x.tick(20));
        tell(text, x::meanSeen);
        tell(text, x::isSound);
    }

    private static void added(KioskReel x, StringBuilder text) {
        for (int i = 0; i < 11; i++) {
            tell(text, x::list);
            tell(text, x::kiosk);
            tell(text, x::visitor);
        }
        row(x, text);
    }

    private static void frozen(KioskReel x, StringBuilder text) {
        for (int i = 0; i < 6; i++) {
            int kiosk = i;
            tell(text, () -> x.freeze(kiosk));
        }
        for (int i = 0; i < 6; i++) {
            tell(text, () -> x.tick(1));
            for (int k = 0; k < 6; k++) {
                int kiosk = k;
                tell(text, () -> x.state(kiosk));
            }
        }
        row(x, text);
    }

    private static void thawed(KioskReel x, StringBuilder text) {
        for (int i = 0; i < 6; i++) {
            int kiosk = 5 - i;
            tell(text, () -> x.thaw(kiosk));
        }
        row(x, text);
        tell(text, () -> x.tick(3));
        row(x, text);
    }

    private static void stopped(KioskReel x, StringBuilder text) {
        for (int i = 0; i < 6; i++) {
            int kiosk = i;
            tell(text, () -> x.stop(kiosk));
            tell(text, () -> x.heldShare());
        }
        for (int i = 0; i < 6; i++) {
            int kiosk = i;
            tell(text, () -> x.start(kiosk, 0));
        }
        tell(text, () -> x.tick(2));
        row(x, text);
        figures(x, text);
    }

    /** The slides of all lists from their beginnings, without visitors. */
    private static void replayed(KioskReel x, StringBuilder text) {
        for (int i = 0; i < 10; i++) {
            int visitor = i;
            tell(text, () -> x.go(visitor, -1));
        }
        startAll(x, text, 0);
        for (int i = 0; i < 20; i++) {
            tell(text, () -> x.tick(1));
            for (int k = 0; k < 6; k++) {
                int kiosk = k;
                tell(text, () -> x.slide(kiosk));
            }
        }
        startAll(x, text, 6);
        for (int i = 0; i < 20; i++) {
            tell(text, () -> x.tick(1));
            tell(text, () -> x.slide(0));
            tell(text, () -> x.slide(1));
        }
    }

    /** Starts the players anew, with lists from this one on. */
    private static void startAll(KioskReel x, StringBuilder text, int list) {
        for (int i = 0; i < 6; i++) {
            int kiosk = i;
            tell(text, () -> x.thaw(kiosk));
            tell(text, () -> x.stop(kiosk));
        }
        for (int i = 0; i < 6; i++) {
            int kiosk = i;
            tell(text, () -> x.start(kiosk, kiosk + list));
        }
    }
}
