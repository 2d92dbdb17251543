/** Objects in the middle of their use, each made by at most some 200 calls. */
final class Rows {
    private Rows() {
    }

    static void untouched(KioskReel x) {
        // a new object is one of the rows that a refused call must leave as they are
    }

    /** Players that wait, queue, show and play elsewhere; kiosk 3 has none, kiosk 4 is out. */
    static void busy(KioskReel x) {
        for (int i = 0; i < 5; i++) {
            x.kiosk();
        }
        Check.list(x, "d0 c3 p1 w4 f0");
        Check.list(x, "s5 w2 s6");
        Check.list(x, "d0 s7 g0");
        Check.list(x, "v2 s8 l1 w1");
        fullList(x);
        x.list();
        x.start(0, 0);
        x.start(1, 2);
        x.start(2, 3);
        x.start(4, 2);
        Check.visitorAt(x, 0);
        Check.visitorAt(x, 2);
        x.visitor();
        Check.visitorAt(x, 1);
        x.tick(3);
        x.ask(0, 5);
        x.freeze(4);
        x.tick(5);
        x.freeze(2);
        x.tick(2);
    }

    /** A list of 20 lines, all of which show. */
    static void fullList(KioskReel x) {
        int list = x.list();
        for (int i = 0; i < 20; i++) {
            x.line(list, i, 's', i);
        }
    }

    /** As many lists, lines, kiosks, players and visitors as can be, and a queue of five. */
    static void full(KioskReel x) {
        for (int i = 0; i < 8; i++) {
            x.list();
            x.line(i, 0, 'd', 0);
            for (int k = 1; k < 20; k++) {
                x.line(i, k, 's', (7 * i + k) % 100);
            }
        }
        for (int i = 0; i < 6; i++) {
            x.kiosk();
            x.start(i, i);
        }
        for (int i = 0; i < 10; i++) {
            Check.visitorAt(x, i % 6);
        }
        x.tick(3);
    }

    /** Three kiosks that are out, and their players, who stand, two of them in a queue. */
    static void standing(KioskReel x) {
        for (int i = 0; i < 3; i++) {
            x.kiosk();
        }
        int list = Check.list(x, "d2 s1 w3 s2");
        for (int i = 0; i < 3; i++) {
            x.start(i, list);
        }
        Check.visitorAt(x, 1);
        x.tick(2);
        x.freeze(1);
        x.freeze(2);
        x.tick(4);
        x.freeze(0);
        x.tick(5);
    }

    /** Kiosks without players, and lists without lines. */
    static void bare(KioskReel x) {
        for (int i = 0; i < 3; i++) {
            x.list();
        }
        for (int i = 0; i < 4; i++) {
            x.kiosk();
        }
        x.visitor();
        x.visitor();
    }
}
