/** The edges that the section "Terms" names for an end that falls. */
final class FallEdgeTest {
    private static final Expect EXPECT = new Expect();

    public static void main(String[] args) {
        for (int end = 0; end < 2; end++) {
            inOpen(end);
            inClosedOrUntouched(end);
            outClosedOrUntouched(end);
            upToTheFirstThatCloses(end);
            closedByTheLastOfSixtyFour(end);
            noneThatCloses(end);
            whatIsPutLater(end);
            laterFallsThrowNoMoreAway(end);
            fallsOutsideOfRun(end);
            numbersAfterAFall(end);
            nothingIsHeard(end);
            noSilence(end);
        }
        EXPECT.finish();
    }

    private static void inOpen(int end) {
        EXPECT.under("if it was in RUN and IN is open, BREAK comes into IN");
        MemoryLink some = Links.up(0);
        Links.putAll(some, 1 - end, 4, Links.END, 5);
        some.run(4);
        Links.fell(some, end);
        EXPECT.taken("IN is not empty", some, end, 4, Links.END, 5, Links.BREAK);

        MemoryLink none = Links.up(0);
        none.put(1 - end, 5);
        none.run(2);
        EXPECT.same("all is taken", none.take(end), 5);
        Links.fell(none, end);
        EXPECT.taken("IN is empty", none, end, Links.BREAK);

        MemoryLink now = Links.up(0);
        now.put(1 - end, 5);
        now.run(1);
        Links.fell(now, end);
        EXPECT.taken("opened in the tick of the fall", now, end, 5, Links.BREAK);
    }

    private static void inClosedOrUntouched(int end) {
        EXPECT.under("if it was in RUN and IN is open, BREAK comes into IN");
        MemoryLink untouched = Links.up(0);
        Links.fell(untouched, end);
        EXPECT.taken("nothing ever came", untouched, end);
        for (int closing = Links.END; closing <= Links.BREAK; closing++) {
            MemoryLink link = Links.up(0);
            Links.putAll(link, 1 - end, 4, closing);
            link.run(4);
            Links.fell(link, end);
            EXPECT.taken("closed by " + closing, link, end, 4, closing);

            MemoryLink now = Links.up(0);
            Links.putAll(now, 1 - end, 4, closing);
            now.run(2);
            Links.fell(now, end);
            EXPECT.taken("closed in the tick of the fall", now, end, 4, closing);
        }
    }

    private static void outClosedOrUntouched(int end) {
        EXPECT.under("if it was in RUN and OUT is open, the rest of the packet is THROWN AWAY");
        MemoryLink untouched = Links.up(0);
        Links.putAll(untouched, end, 1, 2, Links.END);
        Links.fell(untouched, end);
        EXPECT.same("nothing was sent", untouched.look(end, Links.OUT), 3);
        for (int closing = Links.END; closing <= Links.BREAK; closing++) {
            MemoryLink link = Links.up(0);
            Links.putAll(link, end, 1, closing, 2, 3, Links.END);
            link.run(2);
            Links.fell(link, end);
            EXPECT.same("closed by " + closing, link.look(end, Links.OUT), 3);
            EXPECT.same("nothing is thrown away later", link.put(end, 4), 4);
        }
    }

    private static void upToTheFirstThatCloses(int end) {
        EXPECT.under("the characters of OUT up to the first END or BREAK and with it");
        for (int closing = Links.END; closing <= Links.BREAK; closing++) {
            for (int rest = 0; rest < 3; rest++) {
                MemoryLink link = Links.up(0);
                link.put(end, 1);
                Links.putTimes(link, end, rest, 2);
                Links.putAll(link, end, closing, 3, Links.END, Links.BREAK);
                link.run(1);
                Links.fell(link, end);
                EXPECT.same(rest + " before " + closing, link.look(end, Links.OUT), 3);
                link.run(60);
                EXPECT.taken("what is left comes", link, 1 - end, 1, Links.BREAK, 3, Links.END, Links.BREAK);
            }
        }
    }

    private static void closedByTheLastOfSixtyFour(int end) {
        EXPECT.under("the characters of OUT up to the first END or BREAK and with it");
        MemoryLink link = Links.up(0);
        link.put(end, 1);
        link.run(1);
        Links.putTimes(link, end, 63, 2);
        EXPECT.same("OUT is full", link.put(end, Links.END), 64);
        Links.fell(link, end);
        EXPECT.same("all is thrown away", link.look(end, Links.OUT), 0);
        EXPECT.same("and nothing that comes later", link.put(end, 3), 1);
    }

    private static void noneThatCloses(int end) {
        EXPECT.under("if there is none yet, all, and what is put into OUT later up to and with such a one");
        MemoryLink link = Links.up(0);
        link.put(end, 1);
        link.run(1);
        Links.putTimes(link, end, 64, 2);
        EXPECT.same("OUT is full", link.put(end, 3), Links.FULL);
        Links.fell(link, end);
        EXPECT.same("all is thrown away", link.look(end, Links.OUT), 0);
        for (int i = 0; i < 100; i++) {
            EXPECT.same("and all that is put", link.put(end, i), 0);
        }
        EXPECT.same("END too", link.put(end, Links.END), 0);
        EXPECT.same("but not what is behind it", link.put(end, 3), 1);
    }

    private static void whatIsPutLater(int end) {
        EXPECT.under("what is put into OUT later up to and with such a one");
        for (int closing = Links.END; closing <= Links.BREAK; closing++) {
            for (int later : new int[] {0, 255, Links.END, Links.BREAK}) {
                MemoryLink link = Links.up(0);
                link.put(end, 1);
                link.run(1);
                Links.fell(link, end);
                EXPECT.same("OUT is empty, and closed at once by " + closing, link.put(end, closing), 0);
                EXPECT.same("the next is kept: " + later, link.put(end, later), 1);
            }
        }
    }

    private static void laterFallsThrowNoMoreAway(int end) {
        EXPECT.under("if it was in RUN and OUT is open");
        MemoryLink link = Links.up(0);
        link.put(end, 1);
        link.run(2);
        Links.bothFell(link);
        link.run(30);
        Links.bothFellAtOnce(link);
        EXPECT.same("a second fall, the rest still thrown away", link.look(end, Links.FALLS), 2);
        EXPECT.same("its end is thrown away", link.put(end, Links.END), 0);
        Links.putAll(link, end, 5, Links.END, 6);
        link.run(19);
        EXPECT.same("OUT waits", link.look(end, Links.OUT), 3);
        link.run(30);
        EXPECT.taken("all of it comes", link, 1 - end, 1, Links.BREAK, 5, Links.END, 6);
    }

    /** Out of STARTED, CONNECTING, READY and WAIT: what is in the rows stays there. */
    private static void fallsOutsideOfRun(int end) {
        EXPECT.under("An end that FALLS: if it was in RUN ..");
        MemoryLink started = new MemoryLink(0);
        started.control(end, true, false);
        Links.putTimes(started, end, 64, 1);
        started.run(31);
        EXPECT.same("fell out of STARTED", started.look(end, Links.FALLS), 1);
        EXPECT.same("OUT stays", started.look(end, Links.OUT), 64);
        EXPECT.same("no BREAK", started.look(end, Links.IN), 0);

        for (int ticks = 18; ticks <= 19; ticks++) {
            MemoryLink early = Links.enabled(0);
            Links.putAll(early, end, 1, 2);
            early.run(ticks);
            early.spoil(1 - end);
            early.run(2);
            EXPECT.same("fell, tick " + ticks, early.look(end, Links.FALLS), 1);
            EXPECT.same("OUT stays", early.look(end, Links.OUT), 2);
            EXPECT.same("nothing is thrown away later", early.put(end, 3), 3);
            EXPECT.same("no BREAK", early.look(end, Links.IN), 0);
        }

        MemoryLink waiting = new MemoryLink(0);
        waiting.control(1 - end, true, false);
        waiting.put(end, 1);
        waiting.run(19);
        waiting.spoil(1 - end);
        waiting.run(8);
        waiting.spoil(1 - end);
        waiting.run(2);
        EXPECT.same("fell out of READY and of WAIT", waiting.look(end, Links.FALLS), 2);
        EXPECT.same("OUT stays", waiting.look(end, Links.OUT), 1);
        EXPECT.same("no BREAK", waiting.look(end, Links.IN), 0);
    }

    private static void numbersAfterAFall(int end) {
        EXPECT.under("Its state becomes RESET; LOAN and OWED become 0");
        MemoryLink link = Links.up(0);
        Links.putTimes(link, end, 3, 7);
        link.run(10);
        EXPECT.same("LOAN before", link.look(end, Links.LOAN), 21);
        EXPECT.same("OWED before", link.look(end, Links.OWED), 24);
        Links.fell(link, end);
        EXPECT.same("state", link.look(end, Links.STATE), Links.RESET);
        EXPECT.same("clock", link.look(end, Links.CLOCK), 0);
        EXPECT.same("LOAN", link.look(end, Links.LOAN), 0);
        EXPECT.same("OWED", link.look(end, Links.OWED), 0);
        EXPECT.same("falls", link.look(end, Links.FALLS), 1);
        EXPECT.same("falls of the other", link.look(1 - end, Links.FALLS), 0);
        link.run(2);
        EXPECT.same("which comes later", link.look(1 - end, Links.FALLS), 1);
        EXPECT.same("LOAN of the other", link.look(1 - end, Links.LOAN), 0);
        EXPECT.same("OWED of the other", link.look(1 - end, Links.OWED), 0);
    }

    private static void nothingIsHeard(int end) {
        EXPECT.under("nothing is heard, and no silence");
        MemoryLink link = Links.up(0);
        link.control(end, false, true);
        link.control(1 - end, false, false);
        link.run(60);
        EXPECT.same("both fell", link.look(0, Links.FALLS) + link.look(1, Links.FALLS), 2);
        EXPECT.same("auto has to hear anew", link.look(end, Links.STATE), Links.READY);
        link.control(1 - end, true, false);
        link.run(2);
        EXPECT.same("and does", link.look(end, Links.STATE), Links.STARTED);
    }

    private static void noSilence(int end) {
        EXPECT.under("nothing is heard, and no silence");
        MemoryLink link = Links.up(0);
        Links.fell(link, 1 - end);
        Links.fell(link, end);
        EXPECT.same("fell with one tick of silence", link.look(end, Links.FALLS), 1);
        link.run(30);
        EXPECT.same("both run again", link.run(0), Links.states(Links.RUN, Links.RUN));
        Links.fell(link, 1 - end);
        link.run(1);
        EXPECT.same("one tick of silence is none", link.look(end, Links.STATE), Links.RUN);
        link.run(1);
        EXPECT.same("two are", link.look(end, Links.STATE), Links.RESET);
    }
}
