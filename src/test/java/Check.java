/** What the tests share: counting wrong answers, and short ways to set a row of kiosks up. */
final class Check {
    private static int asked;
    private static int wrong;
    private static String heading = "";

    private Check() {
    }

    interface Call {
        void run();
    }

    /** What stands ahead of each answer that is not as due, from now on. */
    static void setHeading(String text) {
        heading = text;
    }

    static int asked() {
        return asked;
    }

    private static void tell(String what, Object got, Object due) {
        wrong++;
        System.out.println(heading + what + ": answered " + got + ", due is " + due);
    }

    static void same(String what, long got, long due) {
        asked++;
        if (got != due) {
            tell(what, got, due);
        }
    }

    static void same(String what, boolean got, boolean due) {
        same(what, got ? 1 : 0, due ? 1 : 0);
    }

    static void sameDouble(String what, double got, double due) {
        asked++;
        if (Double.compare(got, due) != 0) {
            tell(what, got, due);
        }
    }

    static void sameText(String what, String got, String due) {
        asked++;
        if (!got.equals(due)) {
            tell(what, got, due);
        }
    }

    /** Runs a call that must throw exactly this exception. */
    static void refused(String what, Class<? extends RuntimeException> due, Call call) {
        String got = "nothing";
        try {
            call.run();
        } catch (RuntimeException e) {
            got = e.getClass().getName();
        }
        sameText(what + " throws", got, due.getName());
    }

    /** Ends a test: with exit code 1 if an answer was wrong, or nothing was asked. */
    static void end() {
        System.out.println(asked + " answers, " + wrong + " not as due");
        if (wrong != 0 || asked == 0) {
            System.exit(1);
        }
    }

    /** Adds a list with lines like "s7 w2 d3" and returns its number. */
    static int list(KioskReel x, String lines) {
        int list = x.list();
        add(x, list, lines);
        return list;
    }

    /** Puts lines behind those of a list. */
    static void add(KioskReel x, int list, String lines) {
        if (lines.isEmpty()) {
            return;
        }
        int place = size(x, list);
        for (String line : lines.split(" ")) {
            x.line(list, place, line.charAt(0), Integer.parseInt(line.substring(1)));
            place++;
        }
    }

    static int size(KioskReel x, int list) {
        int size = 0;
        for (char kind : "swdfgvlcp".toCharArray()) {
            size += x.lines(list, kind);
        }
        return size;
    }

    static KioskReel row(int kiosks) {
        KioskReel x = new KioskReel();
        for (int i = 0; i < kiosks; i++) {
            x.kiosk();
        }
        return x;
    }

    /** One kiosk whose player has just been started with these lines. */
    static KioskReel playing(String lines) {
        KioskReel x = row(1);
        x.start(0, list(x, lines));
        return x;
    }

    static int visitorAt(KioskReel x, int kiosk) {
        int visitor = x.visitor();
        x.go(visitor, kiosk);
        return visitor;
    }

    /** The players at a kiosk in the order of their turns, like "2 0 1". */
    static String playersAt(KioskReel x, int kiosk) {
        StringBuilder text = new StringBuilder();
        for (int i = 0; i < 7; i++) {
            try {
                text.append(i == 0 ? "" : " ").append(x.playerAt(kiosk, i));
            } catch (java.util.NoSuchElementException e) {
                return text.toString().trim();
            }
        }
        return text.toString();
    }

    /** The players in the queue of a device, like "2 0 1". */
    static String queueOf(KioskReel x, int device) {
        StringBuilder text = new StringBuilder();
        for (int i = 0; i < 7; i++) {
            try {
                text.append(i == 0 ? "" : " ").append(x.queued(device, i));
            } catch (java.util.NoSuchElementException e) {
                return text.toString().trim();
            }
        }
        return text.toString();
    }
}
