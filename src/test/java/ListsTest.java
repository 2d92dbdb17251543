/** Promises 1 to 5: a new object, list, line, cut, lines. */
public final class ListsTest {
    private static final Class<IndexOutOfBoundsException> BOUNDS = IndexOutOfBoundsException.class;
    private static final Class<IllegalArgumentException> ARGUMENT = IllegalArgumentException.class;
    private static final Class<IllegalStateException> STATE = IllegalStateException.class;

    public static void main(String[] args) {
        aNewObjectIsEmpty();
        thereAreEightLists();
        linesArePutAheadOfTheirPlace();
        wrongLinesAreRefused();
        numbersHaveRanges();
        aListHasTwentyLines();
        theFirstDocumentedExceptionIsThrown();
        linesAreCut();
        linesAreCounted();
        Check.end();
    }

    private static void aNewObjectIsEmpty() {
        KioskReel x = new KioskReel();
        Check.refused("new: lines(0)", BOUNDS, () -> x.lines(0, 's'));
        Check.refused("new: state(0)", BOUNDS, () -> x.state(0));
        Check.refused("new: saw(0, 0)", BOUNDS, () -> x.saw(0, 0));
        Check.refused("new: holder(0)", java.util.NoSuchElementException.class, () -> x.holder(0));
        Check.same("new: tick", x.tick(50), 0);
        Check.same("new: done", x.done(), 0);
        Check.same("new: isSound", x.isSound(), true);
        KioskReel other = new KioskReel();
        x.list();
        x.kiosk();
        Check.same("another object's list", other.list(), 0);
        Check.same("another object's kiosk", other.kiosk(), 0);
    }

    private static void thereAreEightLists() {
        KioskReel x = new KioskReel();
        for (int i = 0; i < 8; i++) {
            Check.same("list", x.list(), i);
        }
        Check.refused("the 9th list", STATE, x::list);
        Check.same("lines of the last list", x.lines(7, 's'), 0);
        Check.refused("lines of a list that was refused", BOUNDS, () -> x.lines(8, 's'));
    }

    private static void linesArePutAheadOfTheirPlace() {
        KioskReel x = new KioskReel();
        x.list();
        x.list();
        Check.same("first line", x.line(1, 0, 's', 1), 1);
        Check.same("line behind it", x.line(1, 1, 'w', 1), 2);
        Check.same("line between", x.line(1, 1, 'c', 1), 3);
        Check.same("line ahead of all", x.line(1, 0, 'p', 1), 4);
        Check.same("the other list", Check.size(x, 0), 0);
        Check.same("cut p", x.cut(1, 0), 'p');
        Check.same("cut s", x.cut(1, 0), 's');
        Check.same("cut c", x.cut(1, 0), 'c');
        Check.same("cut w", x.cut(1, 0), 'w');
    }

    private static void wrongLinesAreRefused() {
        KioskReel x = new KioskReel();
        x.list();
        x.line(0, 0, 's', 1);
        Check.refused("line, list -1", BOUNDS, () -> x.line(-1, 0, 's', 1));
        Check.refused("line, list 1", BOUNDS, () -> x.line(1, 0, 's', 1));
        Check.refused("line, list max", BOUNDS, () -> x.line(Integer.MAX_VALUE, 0, 's', 1));
        Check.refused("line, place -1", BOUNDS, () -> x.line(0, -1, 's', 1));
        Check.refused("line, place 2", BOUNDS, () -> x.line(0, 2, 's', 1));
        for (char kind : new char[] {0, 'S', 'a', 'q', 'z', 'x', (char) 65535}) {
            Check.refused("line, kind " + (int) kind, ARGUMENT, () -> x.line(0, 0, kind, 1));
        }
        Check.same("lines left by refused calls", Check.size(x, 0), 1);
    }

    private static void numbersHaveRanges() {
        String kinds = "swdfgvlcp";
        int[] most = {99, 20, 5, 5, 20, 20, 20, 99, 7};
        for (int i = 0; i < kinds.length(); i++) {
            char kind = kinds.charAt(i);
            int least = kind == 'w' ? 1 : 0;
            int largest = most[i];
            KioskReel x = new KioskReel();
            x.list();
            Check.same("least of " + kind, x.line(0, 0, kind, least), 1);
            Check.same("most of " + kind, x.line(0, 0, kind, largest), 2);
            Check.refused("below " + kind, ARGUMENT, () -> x.line(0, 0, kind, least - 1));
            Check.refused("above " + kind, ARGUMENT, () -> x.line(0, 0, kind, largest + 1));
            Check.refused("far above " + kind, ARGUMENT,
                    () -> x.line(0, 0, kind, Integer.MAX_VALUE));
            Check.refused("far below " + kind, ARGUMENT,
                    () -> x.line(0, 0, kind, Integer.MIN_VALUE));
        }
    }

    private static void aListHasTwentyLines() {
        KioskReel x = new KioskReel();
        x.list();
        x.list();
        for (int i = 0; i < 20; i++) {
            Check.same("line", x.line(0, i, 's', i), i + 1);
        }
        Check.refused("the 21st line behind", STATE, () -> x.line(0, 20, 's', 1));
        Check.refused("the 21st line ahead", STATE, () -> x.line(0, 0, 's', 1));
        Check.same("the other list", x.line(1, 0, 's', 1), 1);
        Check.same("cut the last", x.cut(0, 19), 's');
        Check.same("line again", x.line(0, 19, 'w', 1), 20);
    }

    private static void theFirstDocumentedExceptionIsThrown() {
        KioskReel x = new KioskReel();
        x.list();
        Check.refused("place and kind", BOUNDS, () -> x.line(0, 1, 'z', 1));
        Check.refused("list and number", BOUNDS, () -> x.line(1, 0, 's', 100));
        Check.refused("lines: list and kind", BOUNDS, () -> x.lines(1, 'z'));
        for (int i = 0; i < 20; i++) {
            x.line(0, 0, 's', 1);
        }
        Check.refused("full, and place", BOUNDS, () -> x.line(0, 21, 's', 1));
        Check.refused("full, and kind", ARGUMENT, () -> x.line(0, 0, 'z', 1));
        Check.refused("full, and number", ARGUMENT, () -> x.line(0, 0, 'w', 0));
    }

    private static void linesAreCut() {
        KioskReel x = new KioskReel();
        x.list();
        Check.refused("cut of an empty list", BOUNDS, () -> x.cut(0, 0));
        Check.add(x, 0, "s1 w2 c3 p4");
        Check.refused("cut, list -1", BOUNDS, () -> x.cut(-1, 0));
        Check.refused("cut, list 1", BOUNDS, () -> x.cut(1, 0));
        Check.refused("cut, place -1", BOUNDS, () -> x.cut(0, -1));
        Check.refused("cut, place 4", BOUNDS, () -> x.cut(0, 4));
        Check.same("cut inside", x.cut(0, 1), 'w');
        Check.same("cut the last", x.cut(0, 2), 'p');
        Check.same("cut the first", x.cut(0, 0), 's');
        Check.same("cut what is left", x.cut(0, 0), 'c');
        Check.refused("cut of what is empty again", BOUNDS, () -> x.cut(0, 0));
    }

    private static void linesAreCounted() {
        KioskReel x = new KioskReel();
        x.list();
        x.list();
        Check.add(x, 0, "s1 s2 w1 d0 d1 d2 f0 g1 v1 v2 l1 c1 p1 p1 p1 p1");
        int[] due = {2, 1, 3, 1, 1, 2, 1, 1, 4};
        for (int i = 0; i < due.length; i++) {
            char kind = "swdfgvlcp".charAt(i);
            Check.same("lines of " + kind, x.lines(0, kind), due[i]);
            Check.same("lines of the empty list, " + kind, x.lines(1, kind), 0);
        }
        x.cut(0, 0);
        Check.same("lines of s after a cut", x.lines(0, 's'), 1);
        Check.refused("lines, list -1", BOUNDS, () -> x.lines(-1, 's'));
        Check.refused("lines, list 2", BOUNDS, () -> x.lines(2, 's'));
        Check.refused("lines, kind", ARGUMENT, () -> x.lines(0, 'r'));
    }
}
