/** Promises 1 to 5, and the terms of lists, at their edges. */
final class ListEdges {
    private static final String KINDS = "swdfgvlcp";
    private static final int[] LEAST = {0, 1, 0, 0, 0, 0, 0, 0, 0};
    private static final int[] MOST = {99, 20, 5, 5, 20, 20, 20, 99, 7};

    private ListEdges() {
    }

    static void run() {
        aNewObject();
        anObjectFor512Calls();
        listsAreAdded();
        placesOfLines();
        argumentsOfLine();
        aListIsFilled();
        exceptionsOfLine();
        linesAreCut();
        argumentsOfCut();
        linesAreCounted();
        argumentsOfLines();
    }

    private static void aNewObject() {
        Edge.names(1, "Creates a row without kiosks, lists and visitors, at the tick 0.");
        KioskReel x = new KioskReel();
        Check.refused("list 0", Edge.BOUNDS, () -> x.lines(0, 's'));
        Check.refused("kiosk 0", Edge.BOUNDS, () -> x.state(0));
        Check.refused("visitor 0", Edge.BOUNDS, () -> x.saw(0, 0));
        Check.same("the first list", x.list(), 0);
        Check.same("the first kiosk", x.kiosk(), 0);
        Check.same("the first visitor", x.visitor(), 0);
        KioskReel y = new KioskReel();
        y.kiosk();
        y.freeze(0);
        y.tick(4);
        Check.same("frozen after 4 ticks", y.state(0), 'f');
        y.tick(1);
        Check.same("out after the 5th", y.state(0), 'o');
        Check.same("lines done", new KioskReel().done(), 0);
        Edge.names(1, "The devices 0 to 5 are free at first.");
        for (int i = 0; i < 6; i++) {
            int device = i;
            Check.refused("holder " + i, Edge.MISSING, () -> x.holder(device));
            Check.sameText("queue " + i, Check.queueOf(x, i), "");
        }
        Check.refused("holder -1", Edge.BOUNDS, () -> x.holder(-1));
        Check.refused("holder 6", Edge.BOUNDS, () -> x.holder(6));
    }

    private static void anObjectFor512Calls() {
        Edge.names(1, "An object is used for at most 512 calls after it has been made");
        KioskReel x = new KioskReel();
        x.list();
        x.line(0, 0, 's', 1);
        for (int i = 0; i < 6; i++) {
            x.kiosk();
            x.start(i, 0);
        }
        for (int i = 14; i < 510; i++) {
            Check.same("slides of 50 ticks", x.tick(50), 300);
        }
        Check.same("call 511", x.slide(5), 1);
        Check.same("call 512", x.done(), 6 * (2 * 496 * 50 - 1));
        Edge.names(1, "what later calls answer is free.");
        Edge.taken("call 513 and more", Rows::untouched, y -> {
            for (int i = 0; i < 9; i++) {
                x.tick(50);
            }
            x.isSound();
        });
    }

    private static void listsAreAdded() {
        KioskReel x = new KioskReel();
        Edge.names(2, "Adds a list without lines.");
        for (int i = 0; i < 8; i++) {
            int list = x.list();
            Check.same("lines of list " + i, Check.size(x, list), 0);
            Check.refused("cut of list " + i, Edge.BOUNDS, () -> x.cut(list, 0));
            Check.same("its first line", x.line(list, 0, 's', 1), 1);
        }
        Edge.names(2, "Returns its number.");
        KioskReel y = new KioskReel();
        for (int i = 0; i < 8; i++) {
            Check.same("list", y.list(), i);
        }
        Edge.names(2, "Throws `IllegalStateException` if there are 8");
        Edge.taken("the 8th list", z -> lists(z, 7), KioskReel::list);
        Edge.refused("the 9th list", Edge.STATE, z -> lists(z, 8), KioskReel::list);
        Edge.refused("the 9th list of a full row", Edge.STATE, Rows::full, KioskReel::list);
        Edge.names(2, "At most 8 lists have numbers from 0 on");
        Check.refused("list -1", Edge.BOUNDS, () -> y.lines(-1, 's'));
        Check.same("list 0", y.lines(0, 's'), 0);
        Check.same("list 7", y.lines(7, 's'), 0);
        Check.refused("list 8", Edge.BOUNDS, () -> y.lines(8, 's'));
        Check.refused("one more, after refused calls", Edge.STATE, y::list);
        Check.refused("list 8 still", Edge.BOUNDS, () -> y.lines(8, 's'));
    }

    private static void lists(KioskReel x, int lists) {
        for (int i = 0; i < lists; i++) {
            x.list();
        }
    }

    /** A list that shows 1 to so many, on kiosk 0, not yet started. */
    private static KioskReel showing(int lines) {
        KioskReel x = Check.row(1);
        x.list();
        for (int i = 0; i < lines; i++) {
            x.line(0, i, 's', i + 1);
        }
        return x;
    }

    /** "1 2 3" with another text ahead of the one that stands at this place. */
    private static String upTo(int slides, int place, String inserted) {
        StringBuilder text = new StringBuilder();
        for (int i = 0; i <= slides; i++) {
            text.append(i == place ? inserted : "");
            text.append(i < slides ? i + 1 + " " : "");
        }
        return text.toString().trim();
    }

    private static void placesOfLines() {
        Edge.names(3, "Puts a line into a list, ahead of the one that has its place.");
        for (int lines : new int[] {0, 1, 2, 19}) {
            for (int place = 0; place <= lines; place++) {
                KioskReel x = showing(lines);
                Check.same("lines", x.line(0, place, 's', 99), lines + 1);
                x.start(0, 0);
                Check.sameText("at " + place + " of " + lines, Edge.slides(x, lines + 1),
                        upTo(lines, place, "99 "));
            }
        }
        Edge.names(3, "`place`: the place that it gets, from 0, at most behind the last one");
        for (int lines : new int[] {0, 1, 19}) {
            Edge.range("place in " + lines, Edge.BOUNDS, 0, lines, x -> lines(x, lines),
                    (x, place) -> x.line(0, place, 's', 99));
        }
    }

    /** A list of so many lines, and a kiosk that could play it. */
    private static void lines(KioskReel x, int lines) {
        x.kiosk();
        x.list();
        for (int i = 0; i < lines; i++) {
            x.line(0, i, 's', i);
        }
    }

    private static void argumentsOfLine() {
        Edge.names(3, "`list`: the list");
        Edge.range("list of none", Edge.BOUNDS, 0, -1, Rows::untouched,
                (x, list) -> x.line(list, 0, 's', 1));
        Edge.range("list of 3", Edge.BOUNDS, 0, 2, Rows::bare,
                (x, list) -> x.line(list, 0, 's', 1));
        Edge.range("list of 8", Edge.BOUNDS, 0, 7, x -> lists(x, 8),
                (x, list) -> x.line(list, 0, 's', 1));
        Edge.names(3, "`kind`: the kind");
        everyKind((x, kind) -> x.line(0, 0, (char) kind, 1));
        Edge.names(3, "`number`: the number");
        for (int i = 0; i < KINDS.length(); i++) {
            numbersOf(i);
        }
        Edge.names(3, "'s' shows the slide of this number, 0 to 99");
        numbersOf(0);
        Edge.names(3, "'w' waits so many ticks, 1 to 20");
        numbersOf(1);
        Edge.names(3, "'d' takes the device of this number, and 'f' frees it, 0 to 5");
        numbersOf(2);
        numbersOf(3);
        Edge.names(3, "'g' goes on at the line of this number, 0 to 20");
        numbersOf(4);
        Edge.names(3, "'v' goes on at the line of this number");
        numbersOf(5);
        Edge.names(3, "'l' goes on at the line of this number");
        numbersOf(6);
        Edge.names(3, "'c' makes the count this number, 0 to 99");
        numbersOf(7);
        Edge.names(3, "'p' plays the list of this number, 0 to 7");
        numbersOf(8);
    }

    /** The call is taken with the nine kinds, and refused with every other character. */
    private static void everyKind(Edge.Numbered call) {
        for (int from = 0; from < 65536; from += 256) {
            KioskReel x = new KioskReel();
            x.list();
            for (int i = from; i < from + 256; i++) {
                int kind = i;
                if (KINDS.indexOf((char) kind) < 0) {
                    Check.refused("kind " + kind, Edge.ARGUMENT, () -> call.on(x, kind));
                } else {
                    Edge.taken("kind " + kind, KioskReel::list, y -> call.on(y, kind));
                }
            }
        }
    }

    private static void numbersOf(int kind) {
        char letter = KINDS.charAt(kind);
        Edge.range("number of " + letter, Edge.ARGUMENT, LEAST[kind], MOST[kind], Rows::bare,
                (x, number) -> x.line(0, 0, letter, number));
    }

    private static void aListIsFilled() {
        Edge.names(3, "Returns how many lines the list has.");
        KioskReel x = new KioskReel();
        x.list();
        x.list();
        x.line(1, 0, 's', 1);
        for (int i = 1; i <= 20; i++) {
            Check.same("line " + i, x.line(0, (i - 1) / 2, 'w', i), i);
        }
        Check.same("line of the other list", x.line(1, 0, 's', 1), 2);
        Edge.names(3, "Throws `IllegalStateException` if it has 20");
        for (int place : new int[] {0, 10, 19, 20}) {
            Edge.refused("the 21st line at " + place, Edge.STATE, y -> lines(y, 20),
                    y -> y.line(0, place, 'w', 1));
        }
        Edge.taken("the 20th line", y -> lines(y, 19), y -> y.line(0, 19, 'w', 1));
        Edge.refused("the 21st line that a player plays", Edge.STATE, Rows::full,
                y -> y.line(3, 5, 's', 1));
        x.cut(0, 0);
        Check.same("the 20th line after a cut", x.line(0, 0, 'w', 1), 20);
        Check.refused("the 21st after that", Edge.STATE, () -> x.line(0, 0, 'w', 1));
        Edge.names(3, "each with at most 20 lines, numbered from 0");
        Check.same("lines of a full list", Check.size(x, 0), 20);
        Check.refused("line -1", Edge.BOUNDS, () -> x.cut(0, -1));
        Check.same("line 19", x.cut(0, 19), 'w');
        Check.refused("line 19 again", Edge.BOUNDS, () -> x.cut(0, 19));
        Check.same("line 0", x.cut(0, 0), 'w');
    }

    private static void exceptionsOfLine() {
        Edge.names(3, "Throws `IndexOutOfBoundsException` if there is no such list or place");
        Edge.refused("no list", Edge.BOUNDS, Rows::busy, x -> x.line(6, 0, 's', 1));
        Edge.refused("list -1", Edge.BOUNDS, Rows::busy, x -> x.line(-1, 0, 's', 1));
        Edge.refused("place -1", Edge.BOUNDS, Rows::busy, x -> x.line(0, -1, 's', 1));
        Edge.refused("place 6 of 5", Edge.BOUNDS, Rows::busy, x -> x.line(0, 6, 's', 1));
        Edge.refused("place 1 of 0", Edge.BOUNDS, Rows::busy, x -> x.line(5, 1, 's', 1));
        Edge.refused("place 21 of 20", Edge.BOUNDS, Rows::busy, x -> x.line(4, 21, 's', 1));
        Edge.names(3, "Throws `IllegalArgumentException` if there is no such kind, "
                + "or the number is out of its range");
        Edge.refused("kind S", Edge.ARGUMENT, Rows::busy, x -> x.line(0, 0, 'S', 1));
        Edge.refused("kind 0", Edge.ARGUMENT, Rows::busy, x -> x.line(0, 0, (char) 0, 1));
        Edge.refused("s100", Edge.ARGUMENT, Rows::busy, x -> x.line(0, 5, 's', 100));
        Edge.refused("w0", Edge.ARGUMENT, Rows::busy, x -> x.line(0, 5, 'w', 0));
        Edge.names(3, "If several exceptions apply, the one that is documented first is thrown.");
        Edge.refused("list and kind", Edge.BOUNDS, Rows::busy, x -> x.line(6, 0, 'z', 1));
        Edge.refused("place and kind", Edge.BOUNDS, Rows::busy, x -> x.line(0, 6, 'z', 1));
        Edge.refused("place and number", Edge.BOUNDS, Rows::busy, x -> x.line(0, -1, 'w', 21));
        Edge.refused("full and place", Edge.BOUNDS, Rows::busy, x -> x.line(4, 21, 's', 1));
        Edge.refused("full and kind", Edge.ARGUMENT, Rows::busy, x -> x.line(4, 0, 'z', 1));
        Edge.refused("full and number", Edge.ARGUMENT, Rows::busy, x -> x.line(4, 20, 'c', 100));
        Edge.refused("all of them", Edge.BOUNDS, Rows::full, x -> x.line(8, 21, 'z', 100));
        Edge.names(3, "A method that throws an exception changes nothing.");
        Edge.refused("a place far off", Edge.BOUNDS, Rows::full, x -> x.line(0, 1000, 's', 1));
        Edge.refused("a list of none", Edge.BOUNDS, Rows::standing, x -> x.line(1, 0, 's', 1));
    }

    private static void linesAreCut() {
        Edge.names(4, "Takes a line out of a list.");
        for (int lines : new int[] {1, 2, 3, 20}) {
            for (int place = 0; place < lines; place++) {
                KioskReel x = showing(lines);
                x.cut(0, place);
                Check.same("lines left", x.lines(0, 's'), lines - 1);
                x.start(0, 0);
                String due = upTo(lines, -1, "").replaceAll("\\b" + (place + 1) + "\\b ?", "");
                Check.sameText("without " + place + " of " + lines, Edge.slides(x, lines - 1),
                        due.trim());
            }
        }
        for (int place = 0; place < KINDS.length(); place++) {
            KioskReel x = new KioskReel();
            x.list();
            x.list();
            for (int i = 0; i < KINDS.length(); i++) {
                x.line(0, i, KINDS.charAt(i), 1);
                x.line(1, i, KINDS.charAt(i), 1);
            }
            x.cut(0, place);
            Check.sameText("kinds left without " + place, allCut(x, 0),
                    KINDS.substring(0, place) + KINDS.substring(place + 1));
            Check.sameText("kinds of the other list", allCut(x, 1), KINDS);
        }
        KioskReel x = showing(1);
        x.start(0, 0);
        x.cut(0, 0);
        Check.same("a player keeps a line that was cut", x.tick(1), 1);
        Check.same("until it begins anew", x.tick(1), 0);
        Edge.names(4, "Returns its kind.");
        for (char kind : KINDS.toCharArray()) {
            KioskReel y = new KioskReel();
            y.list();
            y.line(0, 0, kind, 1);
            Check.same("cut of the only line", y.cut(0, 0), kind);
            Check.add(y, 0, kind == 's' ? "w1 s1 w1" : "s1 " + kind + "1 s1");
            Check.same("cut of one between", y.cut(0, 1), kind);
            y.line(0, 2, kind, 1);
            Check.same("cut of the last", y.cut(0, 2), kind);
            Check.same("lines left", Check.size(y, 0), 2);
        }
    }

    /** The kinds of a list in their order, which has no lines after it. */
    private static String allCut(KioskReel x, int list) {
        StringBuilder kinds = new StringBuilder();
        for (int left = Check.size(x, list); left > 0; left--) {
            kinds.append(x.cut(list, 0));
        }
        return kinds.toString();
    }

    private static void argumentsOfCut() {
        Edge.names(4, "`list`: the list");
        Edge.range("list of none", Edge.BOUNDS, 0, -1, Rows::untouched, (x, n) -> x.cut(n, 0));
        Edge.range("list", Edge.BOUNDS, 0, 2, x -> {
            Rows.bare(x);
            for (int i = 0; i < 3; i++) {
                x.line(i, 0, 'g', 0);
            }
        }, (x, n) -> x.cut(n, 0));
        Edge.range("list of 8", Edge.BOUNDS, 0, 7, Rows::full, (x, n) -> x.cut(n, 0));
        Edge.names(4, "`place`: its place");
        for (int lines : new int[] {0, 1, 2, 20}) {
            Edge.range("place of " + lines, Edge.BOUNDS, 0, lines - 1, x -> lines(x, lines),
                    (x, place) -> x.cut(0, place));
        }
        Edge.names(4, "Throws `IndexOutOfBoundsException` if there is no such list or place");
        Edge.refused("cut of an empty list", Edge.BOUNDS, Rows::busy, x -> x.cut(5, 0));
        Edge.refused("cut behind the last", Edge.BOUNDS, Rows::busy, x -> x.cut(0, 5));
        Edge.refused("cut behind a full list", Edge.BOUNDS, Rows::busy, x -> x.cut(4, 20));
        Edge.refused("cut ahead of the first", Edge.BOUNDS, Rows::busy, x -> x.cut(4, -1));
        Edge.refused("cut of no list", Edge.BOUNDS, Rows::busy, x -> x.cut(6, 0));
        KioskReel x = showing(2);
        x.cut(0, 0);
        Check.refused("cut of what has gone up", Edge.BOUNDS, () -> x.cut(0, 1));
        x.cut(0, 0);
        Check.refused("cut of what is empty again", Edge.BOUNDS, () -> x.cut(0, 0));
    }

    private static void linesAreCounted() {
        Edge.names(5, "Returns how many lines of a list are of a kind.");
        for (char kind : KINDS.toCharArray()) {
            KioskReel x = new KioskReel();
            x.list();
            x.list();
            for (int i = 0; i <= 20; i++) {
                Check.same(i + " lines of " + kind, x.lines(0, kind), i);
                Check.same(i + " lines in all", Check.size(x, 0), i);
                Check.same("lines of the other list", x.lines(1, kind), 0);
                if (i < 20) {
                    x.line(0, i / 2, kind, 1);
                }
            }
            x.cut(0, 19);
            Check.same("lines after a cut", x.lines(0, kind), 19);
        }
        Edge.leavesAsItWas("counting", Rows::busy, x -> x.lines(4, 's'));
        Edge.names(5, "Returns the number of lines.");
        KioskReel x = new KioskReel();
        x.list();
        Check.add(x, 0, "s1 s99 w1 d0 d5 d5 f1 g20 g0 v1 l1 l1 l1 l1 c9 p0 p7 p7 p7 p7");
        int[] due = {2, 1, 3, 1, 2, 1, 4, 1, 5};
        for (int i = 0; i < due.length; i++) {
            Check.same("lines of " + KINDS.charAt(i), x.lines(0, KINDS.charAt(i)), due[i]);
        }
    }

    private static void argumentsOfLines() {
        Edge.names(5, "`list`: the list");
        Edge.range("list of none", Edge.BOUNDS, 0, -1, Rows::untouched, (x, n) -> x.lines(n, 's'));
        Edge.range("list of 3", Edge.BOUNDS, 0, 2, Rows::bare, (x, n) -> x.lines(n, 's'));
        Edge.range("list of 8", Edge.BOUNDS, 0, 7, Rows::full, (x, n) -> x.lines(n, 's'));
        Edge.names(5, "`kind`: the kind");
        everyKind((x, kind) -> x.lines(0, (char) kind));
        Edge.names(5, "Throws `IndexOutOfBoundsException` if there is no such list");
        Edge.refused("list 6", Edge.BOUNDS, Rows::busy, x -> x.lines(6, 's'));
        Edge.refused("list -1", Edge.BOUNDS, Rows::busy, x -> x.lines(-1, 's'));
        Edge.refused("list 6 and the kind", Edge.BOUNDS, Rows::busy, x -> x.lines(6, 'z'));
        Edge.names(5, "Throws `IllegalArgumentException` if there is no such kind");
        Edge.refused("kind r", Edge.ARGUMENT, Rows::busy, x -> x.lines(0, 'r'));
        Edge.refused("kind W of an empty list", Edge.ARGUMENT, Rows::busy, x -> x.lines(5, 'W'));
    }
}
