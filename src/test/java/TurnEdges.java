/** Promise 17, and the terms of lines, players and ticks, at their edges. */
final class TurnEdges {
    private TurnEdges() {
    }

    static void run() {
        ticksGoBy();
        argumentsOfTick();
        linesThatShowAndWait();
        linesThatGoElsewhere();
        linesThatCount();
        linesThatPlayLists();
        linesGoOnAtTheNextOne();
        listsEnd();
        pilesOfLists();
        changedLists();
        listsThatEndOnAPile();
        turnsInATick();
        waitingInATick();
        theEndsOfATurn();
        visitorsOfASlide();
    }

    private static void ticksGoBy() {
        Edge.names(17, "Lets ticks go by.");
        for (Trace.Reader reader : Trace.READERS) {
            KioskReel once = Edge.made(Rows::busy);
            KioskReel singly = Edge.made(Rows::busy);
            once.tick(50);
            Edge.tick(singly, 50);
            Check.sameText("50 ticks are 50 times one", Trace.of(once, reader),
                    Trace.of(singly, reader));
        }
        KioskReel x = Check.playing("w20");
        x.tick(1);
        Check.same("one tick", x.waits(0), 19);
        x.tick(2);
        Check.same("two ticks", x.waits(0), 17);
        x.tick(17);
        Check.same("seventeen ticks", x.waits(0), 0);
        Edge.names(17, "Returns how many slides were shown in them.");
        Check.same("without kiosks", new KioskReel().tick(50), 0);
        Check.same("without players", Check.row(6).tick(50), 0);
        KioskReel six = KioskEdges.players(6);
        Check.same("of one tick", six.tick(1), 6);
        Check.same("of fifty", six.tick(50), 300);
        six.freeze(5);
        Check.same("with one frozen, then out, until its player plays on", six.tick(50), 295);
    }

    private static void argumentsOfTick() {
        Edge.names(17, "`ticks`: the number of ticks, 1 to 50");
        Edge.range("ticks", Edge.ARGUMENT, 1, 50, Rows::busy, (x, n) -> x.tick(n));
        Edge.names(17, "Throws `IllegalArgumentException` if it is out of range");
        Edge.refused("tick 0", Edge.ARGUMENT, Rows::untouched, x -> x.tick(0));
        Edge.refused("tick 51", Edge.ARGUMENT, Rows::full, x -> x.tick(51));
        Edge.refused("tick -1", Edge.ARGUMENT, Rows::standing, x -> x.tick(-1));
        KioskReel x = Check.playing("s1");
        Check.same("tick 50", x.tick(50), 50);
        Check.same("tick 1", x.tick(1), 1);
    }

    private static void linesThatShowAndWait() {
        Edge.names(17, "'s' shows the slide of this number, 0 to 99");
        Check.sameText("s0 and s99", Edge.slides(Check.playing("s0 s99 s50"), 4), "0 99 50 0");
        Edge.names(17, "'w' waits so many ticks, 1 to 20");
        for (int wait = 1; wait <= 20; wait++) {
            KioskReel x = Check.playing("w" + wait + " s1");
            Check.same("w" + wait, x.tick(wait), 0);
            Check.same("the tick behind it", x.tick(1), 1);
        }
        Edge.names(17, "With 'w', the player has one tick less than the number to wait: with 1, "
                + "it goes on in the next tick.");
        for (int wait : new int[] {1, 2, 20}) {
            KioskReel x = Check.playing("w" + wait);
            x.tick(1);
            Check.same("left by w" + wait, x.waits(0), wait - 1);
        }
        Check.sameText("w1 and w2", Edge.slides(Check.playing("w1 s1 w2 s2"), 5), "- 1 - - 2");
    }

    private static void linesThatGoElsewhere() {
        Edge.names(17, "'d' takes the device of this number, and 'f' frees it, 0 to 5");
        for (int i = 0; i < 6; i++) {
            int device = i;
            KioskReel x = Check.playing("d" + i + " w1 f" + i + " w1");
            x.tick(1);
            Check.same("d" + i, x.holder(i), 0);
            Check.sameDouble("it alone", x.heldShare(), 1.0f / 6.0f);
            x.tick(1);
            Check.refused("f" + i, Edge.MISSING, () -> x.holder(device));
        }
        Edge.names(17, "'g' goes on at the line of this number, 0 to 20");
        for (int target = 0; target <= 20; target++) {
            goesTo('g', target, Check.row(1));
        }
        Edge.names(17, "'v' goes on at the line of this number if no visitor is where the player "
                + "plays");
        for (int target = 0; target <= 20; target++) {
            goesTo('v', target, Check.row(1));
            KioskReel away = Check.row(2);
            away.visitor();
            Check.visitorAt(away, 1);
            goesTo('v', target, away);
            KioskReel first = Check.row(1);
            Check.visitorAt(first, 0);
            first.visitor();
            goesToTheNext("v" + target, first);
            KioskReel last = Check.row(1);
            for (int i = 0; i < 9; i++) {
                last.visitor();
            }
            Check.visitorAt(last, 0);
            goesToTheNext("v" + target, last);
        }
        visitorsWhereAPlayerIsAGuest();
    }

    private static void visitorsWhereAPlayerIsAGuest() {
        KioskReel x = Check.row(2);
        x.start(1, Check.list(x, "v2 s1 s2"));
        KioskEdges.makeOut(x, 1);
        x.stop(1);
        x.start(1, 0);
        int visitor = Check.visitorAt(x, 1);
        Check.sameText("a visitor at its own kiosk alone", Edge.slides(x, 1), "2");
        x.go(visitor, 0);
        Check.sameText("a visitor where it plays", Edge.slides(x, 1), "1");
    }

    /** Lines 0 to 19, the line 1 being the one that goes elsewhere: its turn is the 2nd one. */
    private static KioskReel secondLine(String line, KioskReel x) {
        StringBuilder lines = new StringBuilder("s0 " + line);
        for (int i = 2; i < 20; i++) {
            lines.append(" s").append(i);
        }
        x.start(0, Check.list(x, lines.toString()));
        x.tick(1);
        return x;
    }

    private static void goesTo(char kind, int target, KioskReel row) {
        KioskReel x = secondLine("" + kind + target, row);
        long before = x.done();
        int shown = x.tick(1);
        String what = "" + kind + target;
        if (target == 1) {
            Check.same(what + " goes round: slides", shown, 0);
            Check.same(what + " goes round: lines", x.done() - before, 8);
            Check.same(what + " goes round: next", x.next(0), 101);
        } else {
            int due = target == 20 ? 0 : target;
            Check.same(what + ": slides", shown, 1);
            Check.same(what + ": slide", x.slide(0), due);
            Check.same(what + ": next", x.next(0), 101 + due);
            Check.same(what + ": lines", x.done() - before, target == 20 ? 3 : 2);
        }
    }

    private static void goesToTheNext(String line, KioskReel row) {
        KioskReel x = secondLine(line, row);
        long before = x.done();
        Check.same(line + " goes to the next: slides", x.tick(1), 1);
        Check.same(line + " goes to the next: slide", x.slide(0), 2);
        Check.same(line + " goes to the next: next", x.next(0), 103);
        Check.same(line + " goes to the next: lines", x.done() - before, 2);
    }

    private static void linesThatCount() {
        Edge.names(17, "'l' goes on at the line of this number if the count of the player is 0, "
                + "and otherwise makes it 1 less");
        for (int target = 0; target <= 20; target++) {
            goesTo('l', target, Check.row(1));
        }
        for (int count : new int[] {0, 1, 2, 98, 99}) {
            KioskReel x = Check.playing("c" + count + " l4 s2 s3 s4");
            x.tick(1);
            Check.same("slide with the count " + count, x.slide(0), count == 0 ? 4 : 2);
            Check.same("count after " + count, x.count(0), count == 0 ? 0 : count - 1);
        }
        Edge.names(17, "'c' makes the count this number, 0 to 99");
        for (int count : new int[] {0, 1, 50, 98, 99}) {
            KioskReel x = Check.playing("c7 c" + count + " w1");
            x.tick(1);
            Check.same("c" + count, x.count(0), count);
        }
    }

    private static void linesThatPlayLists() {
        Edge.names(17, "'p' plays the list of this number, 0 to 7, and goes on behind it.");
        for (int called = 0; called < 8; called++) {
            KioskReel x = Check.row(1);
            for (int i = 0; i < 8; i++) {
                Check.list(x, "s" + (10 + i) + (i == 0 ? " p" + called + " s1" : ""));
            }
            x.start(0, 0);
            Check.sameText("p" + called, Edge.slides(x, 3), "10 " + (10 + called)
                    + (called == 0 ? " 10" : " 1"));
        }
        for (int lists = 1; lists <= 7; lists++) {
            KioskReel x = Check.playing("p" + lists + " s1 p" + (lists - 1) + " s2");
            for (int i = 1; i < lists; i++) {
                Check.list(x, "s9");
            }
            x.tick(1);
            Check.same("a list that is not there", x.slide(0), 1);
            Check.same("next behind it", x.next(0), 102);
            x.tick(1);
            Check.same("the last list", x.slide(0), lists == 1 ? 1 : 9);
            Check.same("next in it", x.next(0), lists == 1 ? 202 : 201);
            x.list();
            x.stop(0);
            x.start(0, 0);
            x.tick(1);
            Check.same("once it is there, it ends at once", x.done(), lists == 1 ? 7 : 6);
        }
    }

    private static void linesGoOnAtTheNextOne() {
        Edge.names(17, "A line that is not told to go elsewhere goes on at the next one.");
        for (String line : "s1 w1 d0 f0 v0 l0 c1 p7".split(" ")) {
            KioskReel x = Check.playing("c1 " + line + " c1 w1 " + line);
            Check.visitorAt(x, 0);
            x.tick(1);
            boolean ends = "sw".indexOf(line.charAt(0)) >= 0;
            Check.same("behind " + line, x.next(0), ends ? 102 : 104);
            Check.same("lines up to there", x.done(), ends ? 2 : 4);
        }
        KioskReel x = Check.row(1);
        Rows.fullList(x);
        x.start(0, 0);
        x.tick(19);
        Check.same("behind line 18", x.next(0), 119);
        x.tick(1);
        Check.same("slide of line 19", x.slide(0), 19);
    }

    private static void listsEnd() {
        Edge.names(17, "A list ends when there is no line at which it goes on.");
        for (int lines = 1; lines <= 19; lines++) {
            for (int target = lines - 1; target <= lines + 1; target++) {
                KioskReel x = Check.row(1);
                x.list();
                x.line(0, 0, 's', 98);
                x.line(0, 1, 'g', Math.min(20, target + 1));
                for (int i = 1; i < lines; i++) {
                    x.line(0, i + 1, 's', i);
                }
                x.start(0, 0);
                x.tick(1);
                long before = x.done();
                x.tick(1);
                boolean there = target < lines && lines > 1;
                boolean round = target < lines && lines == 1;
                Check.same("lines done, to " + target + " of " + lines, x.done() - before,
                        round ? 8 : there ? 2 : 3);
                Check.same("slide, to " + target + " of " + lines, x.slide(0),
                        there ? target : 98);
            }
        }
        KioskReel empty = Check.playing("");
        Check.same("slides of a list without lines", empty.tick(3), 0);
        Check.same("its beginnings anew", empty.done(), 24);
        Check.same("its next line", empty.next(0), 100);
    }

    /** List i plays list i + 1 and shows i. */
    private static KioskReel chain(int lists) {
        KioskReel x = Check.row(1);
        for (int i = 0; i < lists; i++) {
            Check.list(x, "p" + (i + 1) + " s" + i);
        }
        return x;
    }

    private static void pilesOfLists() {
        Edge.names(17, "'p' puts a list on the pile, unless there is no such list, or 4 are on it "
                + "already: then it does nothing.");
        KioskReel five = chain(5);
        five.start(0, 0);
        Check.sameText("the 5th list is not played", Edge.slides(five, 5), "3 2 1 0 3");
        Check.same("lines of it", five.done(), 4 + 1 + 1 + 1 + 1 + 1 + 5);
        five.stop(0);
        five.start(0, 1);
        five.tick(1);
        Check.same("the 4th list is", five.slide(0), 4);
        Check.same("next of it", five.next(0), 402);
        KioskReel four = chain(4);
        four.start(0, 0);
        four.tick(1);
        Check.same("no such list, and four on it", four.next(0), 402);
        KioskReel three = chain(3);
        three.start(0, 0);
        three.tick(1);
        Check.same("no such list", three.next(0), 302);
        three.list();
        three.tick(3);
        Check.same("p of a list without lines", three.slide(0), 2);
        Check.same("which has ended", three.next(0), 302);
        for (int lists = 1; lists < 8; lists++) {
            KioskReel last = Check.playing("c1 c2 c3 c4 c5 c6 c7 p" + lists);
            for (int i = 1; i < lists; i++) {
                last.list();
            }
            last.tick(1);
            Check.same("as the 8th line, no such list " + lists, last.next(0), 108);
            last.list();
            last.stop(0);
            last.start(0, 0);
            last.tick(1);
            Check.same("as the 8th line, a list without lines", last.next(0), 200);
        }
        KioskReel again = Check.playing("p0 p0 s1");
        again.tick(1);
        Check.same("four on it, and again", again.next(0), 403);
        Check.same("two lines that did nothing", again.done(), 6);
        again.tick(1);
        Check.same("one taken away, one put on", again.next(0), 403);
        Check.same("p, p, p and s", again.done(), 10);
    }

    private static void changedLists() {
        Edge.names(17, "A player has a pile of lists, each with its lines as they were when it "
                + "began to play it, and the line that is next");
        KioskReel x = Check.playing("s1 p0 s2");
        Check.same("it plays one list at first", x.next(0), 100);
        x.line(0, 0, 's', 3);
        Check.sameText("the list of the start, and the one of the call", Edge.slides(x, 2), "1 3");
        x.cut(0, 0);
        x.cut(0, 0);
        x.cut(0, 0);
        Check.sameText("two versions, and a third", Edge.slides(x, 2), "1 2");
        KioskReel cut = Check.row(1);
        Rows.fullList(cut);
        cut.start(0, 0);
        for (int i = 0; i < 20; i++) {
            cut.cut(0, 0);
        }
        Check.same("20 lines that were cut", cut.tick(21), 20);
        Check.same("then none", cut.next(0), 100);
        Edge.names(17, "changes that come later do not count for it until it begins this list "
                + "again.");
        KioskReel grown = Check.playing("");
        for (int i = 0; i < 20; i++) {
            grown.line(0, i, 's', i);
        }
        Check.same("the first line after a beginning anew", grown.tick(1), 1);
        Check.same("of two lines", grown.done(), 2);
        Check.same("the others", grown.tick(19), 19);
        Check.same("the last line", grown.slide(0), 19);
        KioskReel eight = Check.playing("c1 c2 c3 c4 c5 c6 c7");
        eight.tick(1);
        eight.line(0, 0, 's', 5);
        Check.sameText("too late for a beginning that was the 8th line", Edge.slides(eight, 2),
                "- 5");
        KioskReel lateList = Check.playing("s1 p1 s2");
        lateList.tick(1);
        int late = Check.list(lateList, "s3 s4");
        Check.sameText("a list that came before its call", Edge.slides(lateList, 1), "3");
        lateList.cut(late, 1);
        Check.sameText("is played as it was", Edge.slides(lateList, 5), "4 2 1 3 2");
    }

    private static void listsThatEndOnAPile() {
        Edge.names(17, "A list that ends is taken from the pile");
        KioskReel x = Check.row(1);
        Check.list(x, "p1");
        Check.list(x, "p2");
        Check.list(x, "p3");
        Check.list(x, "w1");
        x.start(0, 0);
        x.tick(1);
        Check.same("four that have ended", x.next(0), 401);
        Check.same("lines", x.done(), 4);
        Edge.names(17, "the last one begins anew instead, with its lines as they are then, which "
                + "counts as a line that is done");
        x.tick(1);
        Check.same("begun anew and four again", x.next(0), 401);
        Check.same("one beginning", x.done(), 9);
        KioskReel seven = Check.playing("c1 c2 c3 c4 c5 c6 c7");
        seven.tick(1);
        Check.same("it is the 8th line", seven.next(0), 100);
        Check.same("seven lines and one", seven.done(), 8);
        KioskReel eight = Check.playing("c1 c2 c3 c4 c5 c6 c7 c8");
        eight.tick(1);
        Check.same("it would be the 9th line", eight.next(0), 108);
        eight.tick(1);
        Check.same("it is the first of the next turn", eight.next(0), 107);
        KioskReel then = Check.playing("s1");
        then.tick(1);
        then.cut(0, 0);
        then.line(0, 0, 's', 2);
        Check.sameText("with the new lines", Edge.slides(then, 1), "2");
        Check.same("one beginning and two slides", then.done(), 3);
        Edge.names(17, "taking one away does not.");
        KioskReel away = Check.row(1);
        Check.list(away, "p1 c1 c2 c3 c4 c5 c6 s1 s2");
        away.list();
        away.start(0, 0);
        Check.sameText("it is none of eight lines", Edge.slides(away, 1), "1");
        Check.same("lines with one taken away", away.done(), 8);
        KioskReel three = Check.row(1);
        Check.list(three, "p1 c1 c2 c3 c4 s1 s2");
        Check.list(three, "p2");
        Check.list(three, "p3");
        three.list();
        three.start(0, 0);
        Check.sameText("nor are three", Edge.slides(three, 1), "1");
        Check.same("lines with three taken away", three.done(), 8);
    }

    private static void turnsInATick() {
        Edge.names(17, "In a tick, kiosks that are not frozen are gone through by rising numbers, "
                + "and at each the players that play there, its own one first, then others in the "
                + "order in which they came.");
        KioskReel x = Check.row(6);
        int list = Check.list(x, "d0 w20");
        for (int kiosk : new int[] {5, 3, 4, 0, 2, 1}) {
            x.start(kiosk, list);
        }
        x.freeze(0);
        x.tick(1);
        Check.same("the first that is not frozen", x.holder(0), 1);
        Check.sameText("then the others", Check.queueOf(x, 0), "2 3 4 5");
        x.thaw(0);
        x.tick(1);
        Check.sameText("the thawed one is late", Check.queueOf(x, 0), "2 3 4 5 0");
        KioskReel y = Check.row(5);
        int wants = Check.list(y, "d0 w20");
        KioskEdges.makeOut(y, 1, 2, 3, 4);
        y.start(3, wants);
        y.start(1, wants);
        y.start(4, wants);
        y.start(0, wants);
        y.start(2, wants);
        Check.sameText("own, then as they came", Check.playersAt(y, 0), "0 3 1 4 2");
        y.tick(1);
        Check.same("the own one is first", y.holder(0), 0);
        Check.sameText("turns as they came", Check.queueOf(y, 0), "3 1 4 2");
    }

    private static void waitingInATick() {
        Edge.names(17, "A player that has ticks to wait has one less then, and does nothing else");
        KioskReel x = Check.playing("w2 s1");
        x.tick(1);
        Check.same("one to wait", x.waits(0), 1);
        Check.same("slides of the last tick", x.tick(1), 0);
        Check.same("none to wait", x.waits(0), 0);
        Check.same("lines", x.done(), 1);
        Check.same("then it shows", x.tick(1), 1);
        KioskReel frozen = Check.playing("w3 s1");
        frozen.tick(1);
        frozen.freeze(0);
        frozen.tick(4);
        Check.same("not while its kiosk is frozen", frozen.waits(0), 2);
        Edge.names(17, "one that waits for a device does nothing");
        KioskReel full = Edge.made(Rows::full);
        long before = full.done();
        Check.same("slides beside five that wait", full.tick(5), 5);
        Check.same("lines of the one that does not wait", full.done() - before, 5);
        Check.same("it waits still", full.waits(5), 100);
        Check.same("next of one that waits", full.next(5), 101);
    }

    private static void theEndsOfATurn() {
        Edge.names(17, "others do lines until one of these: a slide that was shown, a 'w', "
                + "a 'd' that has to wait, or the 8th line.");
        String seven = "c1 c2 c3 c4 c5 c6 c7";
        KioskReel show = Check.playing(seven + " s1 c9");
        Check.same("the 8th line shows", show.tick(1), 1);
        Check.same("next behind it", show.next(0), 108);
        KioskReel late = Check.playing(seven + " c8 s1");
        Check.same("the 9th does not", late.tick(1), 0);
        Check.same("next of eight lines", late.next(0), 108);
        Check.same("it comes then", late.tick(1), 1);
        KioskReel early = Check.playing("c1 c2 c3 c4 c5 c6 s1 c9");
        Check.same("the 7th shows", early.tick(1), 1);
        Check.same("and ends the turn", early.done(), 7);
        KioskReel wait = Check.playing(seven + " w5");
        wait.tick(1);
        Check.same("w as the 8th line", wait.waits(0), 4);
        KioskReel first = Check.playing("w1 c5");
        first.tick(1);
        Check.same("w1 ends the turn", first.count(0), 0);
        KioskReel device = Check.row(2);
        device.start(0, Check.list(device, "d1 w20"));
        device.start(1, Check.list(device, seven + " d1 c9"));
        device.tick(1);
        Check.same("d as the 8th line waits", device.waits(1), 100);
        Check.same("lines with it", device.done(), 10);
        KioskReel free = Check.playing("d1 d1 f1 d2 s1");
        Check.same("a d that does not wait does not end it", free.tick(1), 1);
        KioskReel called = Check.row(1);
        Check.list(called, seven + " p1 s1");
        Check.list(called, "s2");
        called.start(0, 0);
        Check.same("p as the 8th line", called.tick(1), 0);
        Check.same("next in the called list", called.next(0), 200);
        KioskReel seen = Check.playing("s1");
        Check.visitorAt(seen, 0);
        seen.tick(1);
        Check.same("a slide that is not shown", seen.tick(1), 0);
        Check.same("does not end the turn", seen.done(), 9);
    }

    private static void visitorsOfASlide() {
        Edge.names(17, "If there are visitors there, and none of them would see it, the line shows "
                + "nothing, and the player goes on.");
        for (int there = 0; there <= 10; there++) {
            KioskReel x = Check.playing("s1 w1");
            for (int i = 0; i < 10; i++) {
                x.visitor();
            }
            for (int i = 0; i < there; i++) {
                x.go(9 - i, 0);
            }
            Check.same("for " + there + " who had not seen it", x.tick(2), 1);
            Check.same("again", x.tick(2), there == 0 ? 1 : 0);
            if (there > 0) {
                x.ask(10 - there, 1);
                Check.same("for one of " + there, x.tick(2), 1);
                Check.same("it saw it", x.saw(10 - there, 1), 2);
                Check.same("the last one did not", x.saw(9, 1), there == 1 ? 2 : 1);
            }
        }
        Edge.names(24, "A slide that is shown is that of the kiosk then, and each visitor there "
                + "sees it, but for those who saw it already, wherever, and have not asked for it "
                + "since.");
        KioskReel x = Check.row(2);
        int list = Check.list(x, "s7 w1");
        x.start(0, list);
        int first = Check.visitorAt(x, 0);
        int second = Check.visitorAt(x, 1);
        int asked = Check.visitorAt(x, 0);
        x.tick(1);
        Check.same("slide of the kiosk", x.slide(0), 7);
        Check.refused("slide of the other", Edge.MISSING, () -> x.slide(1));
        Check.same("one there", x.saw(first, 7), 1);
        Check.same("one elsewhere", x.saw(second, 7), 0);
        x.ask(asked, 7);
        x.go(first, 1);
        x.go(asked, 1);
        x.start(1, list);
        x.tick(2);
        Check.same("who saw it elsewhere", x.saw(first, 7), 1);
        Check.same("who had not seen it", x.saw(second, 7), 1);
        Check.same("who asked for it since", x.saw(asked, 7), 2);
        x.tick(10);
        Check.sameDouble("and not again", x.meanSeen(), 4.0 / 3.0);
    }
}
