/** Promise 3: run, with the parts of a tick that start, stop and restart the link. */
final class RunTest {
    private static final Expect EXPECT = new Expect();

    public static void main(String[] args) {
        bounds();
        startIsTickForTick();
        answerHoldsBothStates();
        startedFallsAfterTwelveTicks();
        silenceOfOneTickIsNoFault();
        anEndThatOnlyHeardFallsInSilence();
        whatArrivesInResetIsLost();
        aFullInletLetsTheOtherFallInConnecting();
        aPacketCharacterInConnectingIsAFault();
        aTimeInConnectingIsAFault();
        creditIsLentAgain();
        runsInOneCallOrMany();
        EXPECT.finish();
    }

    private static void bounds() {
        MemoryLink link = Links.enabled(0);
        for (int n : new int[] {-1, 201, Integer.MIN_VALUE, Integer.MAX_VALUE}) {
            EXPECT.same("run(" + n + ")", link.run(n), Links.BAD);
        }
        EXPECT.same("no tick went by", link.look(0, Links.CLOCK), 0);
        EXPECT.same("run(0)", link.run(0), 0);
        EXPECT.same("run(0) makes no tick", link.look(0, Links.CLOCK), 0);
        EXPECT.same("run(200)", link.run(200), Links.states(Links.RUN, Links.RUN));
        EXPECT.same("200 ticks went by", link.look(0, Links.CLOCK), 179);
    }

    /** Rows: tick, state, clock, LOAN, OWED, what was sent; both ends are alike. */
    private static void startIsTickForTick() {
        int[][] due = {
            {1, Links.RESET, 1, 0, 0, Links.NONE},
            {5, Links.RESET, 5, 0, 0, Links.NONE},
            {6, Links.WAIT, 0, 0, 0, Links.NONE},
            {17, Links.WAIT, 11, 0, 0, Links.NONE},
            {18, Links.READY, 0, 0, 0, Links.NONE},
            {19, Links.STARTED, 0, 0, 0, Links.IDLE},
            {20, Links.CONNECTING, 0, 0, 8, Links.CREDIT},
            {21, Links.RUN, 0, 8, 16, Links.CREDIT},
            {22, Links.RUN, 1, 16, 24, Links.CREDIT},
            {23, Links.RUN, 2, 24, 24, Links.IDLE},
            {60, Links.RUN, 39, 24, 24, Links.IDLE},
        };
        for (int[] row : due) {
            MemoryLink link = Links.enabled(0);
            EXPECT.same("tick " + row[0], link.run(row[0]), Links.states(row[1], row[1]));
            for (int end = 0; end < 2; end++) {
                String what = "tick " + row[0] + ", end " + end;
                EXPECT.same(what + ", state", link.look(end, Links.STATE), row[1]);
                EXPECT.same(what + ", clock", link.look(end, Links.CLOCK), row[2]);
                EXPECT.same(what + ", LOAN", link.look(end, Links.LOAN), row[3]);
                EXPECT.same(what + ", OWED", link.look(end, Links.OWED), row[4]);
                EXPECT.same(what + ", sent", link.look(end, Links.SENT), row[5]);
            }
        }
    }

    private static void answerHoldsBothStates() {
        MemoryLink link = new MemoryLink(0);
        link.control(1, true, false);
        EXPECT.same("end 1 stands before end 0", link.run(19), 2 + 8 * 3);
    }

    private static void startedFallsAfterTwelveTicks() {
        MemoryLink link = new MemoryLink(0);
        link.control(0, true, false);
        link.run(30);
        EXPECT.same("eleven ticks", link.look(0, Links.STATE), Links.STARTED);
        EXPECT.same("eleven on the clock", link.look(0, Links.CLOCK), 11);
        link.run(1);
        EXPECT.same("twelve ticks", link.look(0, Links.STATE), Links.RESET);
        EXPECT.same("a new clock", link.look(0, Links.CLOCK), 0);
        EXPECT.same("it sends nothing", link.look(0, Links.SENT), Links.NONE);
        EXPECT.same("one fall", link.look(0, Links.FALLS), 1);
        link.run(19);
        EXPECT.same("it starts anew", link.look(0, Links.STATE), Links.STARTED);
    }

    private static void anEndThatOnlyHeardFallsInSilence() {
        MemoryLink link = new MemoryLink(0);
        link.control(0, true, false);
        link.run(32);
        EXPECT.same("one tick of silence", link.look(1, Links.STATE), Links.READY);
        link.run(1);
        EXPECT.same("two ticks of silence", link.look(1, Links.STATE), Links.RESET);
        EXPECT.same("one fall", link.look(1, Links.FALLS), 1);
        link.run(18);
        EXPECT.same("without having heard, no fall", link.look(1, Links.FALLS), 1);
    }

    private static void silenceOfOneTickIsNoFault() {
        MemoryLink link = Links.up(0);
        link.control(1, false, false);
        link.run(2);
        EXPECT.same("one tick of silence", link.look(0, Links.STATE), Links.RUN);
        EXPECT.same("it has not fallen", link.look(0, Links.FALLS), 0);
        link.run(1);
        EXPECT.same("two in a row", link.look(0, Links.FALLS), 1);
        EXPECT.same("LOAN is gone", link.look(0, Links.LOAN), 0);
        EXPECT.same("OWED is gone", link.look(0, Links.OWED), 0);
    }

    private static void whatArrivesInResetIsLost() {
        MemoryLink link = Links.up(0);
        Links.putAll(link, 0, 1, 2, Links.END);
        link.control(1, false, true);
        link.spoil(0);
        link.spoil(1);
        link.run(1);
        EXPECT.same("both hear a spoiled one", link.run(1), Links.states(Links.RESET, Links.RESET));
        link.spoil(0);
        EXPECT.same("nothing is sent in RESET", link.run(5), Links.states(Links.RESET, Links.RESET));
        EXPECT.same("each fell once", link.look(1, Links.FALLS), 1);

        MemoryLink other = Links.up(0);
        other.control(1, false, false);
        other.run(1);
        other.control(1, false, true);
        other.spoil(0);
        other.put(0, 5);
        other.run(1);
        EXPECT.same("end 0 sends on", other.look(0, Links.SENT), 5);
        other.run(1);
        EXPECT.same("a spoiled one is lost in RESET", other.look(1, Links.FALLS), 1);
        EXPECT.same("and so is its data", other.look(1, Links.IN), 0);
        EXPECT.same("the clock goes on", other.look(1, Links.CLOCK), 2);
    }

    /** End 1 has 24 characters in IN and so can't lend when the link starts anew. */
    private static MemoryLink withFullInlet() {
        MemoryLink link = Links.up(0);
        for (int i = 0; i < 23; i++) {
            link.put(0, i);
        }
        link.put(0, Links.END);
        link.run(40);
        EXPECT.same("IN is full", link.look(1, Links.IN), 24);
        link.spoil(0);
        link.spoil(1);
        EXPECT.same("both fall", link.run(2), Links.states(Links.RESET, Links.RESET));
        return link;
    }

    private static void aFullInletLetsTheOtherFallInConnecting() {
        MemoryLink link = withFullInlet();
        EXPECT.same("both connect", link.run(20), Links.states(Links.CONNECTING, Links.CONNECTING));
        EXPECT.same("end 0 lends", link.look(0, Links.SENT), Links.CREDIT);
        EXPECT.same("end 1 can't", link.look(1, Links.SENT), Links.IDLE);
        EXPECT.same("end 1 has credit", link.run(1), Links.states(Links.CONNECTING, Links.RUN));
        EXPECT.same("and still can't lend", link.look(1, Links.SENT), Links.IDLE);
        EXPECT.same("eleven ticks", link.run(10), Links.states(Links.CONNECTING, Links.RUN));
        EXPECT.same("credit that end 0 lent", link.look(0, Links.OWED), 24);
        EXPECT.same("twelve ticks", link.run(1), Links.states(Links.RESET, Links.RUN));
        EXPECT.same("end 0 fell twice", link.look(0, Links.FALLS), 2);
        Links.drain(link, 1);
        link.run(2);
        EXPECT.same("with room it comes up", link.run(40), Links.states(Links.RUN, Links.RUN));
    }

    private static void aPacketCharacterInConnectingIsAFault() {
        MemoryLink link = withFullInlet();
        link.put(1, 7);
        EXPECT.same("end 1 runs", link.run(21), Links.states(Links.CONNECTING, Links.RUN));
        EXPECT.same("end 1 sends data", link.look(1, Links.SENT), 7);
        EXPECT.same("end 0 falls", link.run(1), Links.states(Links.RESET, Links.RUN));
        EXPECT.same("nothing came", link.look(0, Links.IN), 0);
    }

    private static void aTimeInConnectingIsAFault() {
        MemoryLink link = withFullInlet();
        link.sendTime(1, 1);
        EXPECT.same("end 1 runs", link.run(21), Links.states(Links.CONNECTING, Links.RUN));
        EXPECT.same("end 1 sends a time", link.look(1, Links.SENT), Links.TIME + 1);
        EXPECT.same("end 0 falls", link.run(1), Links.states(Links.RESET, Links.RUN));
        EXPECT.same("its time stays", link.look(0, Links.CLOCK_TIME), 0);
        EXPECT.same("no good time", link.look(0, Links.GOOD_TIMES), 0);
    }

    private static void creditIsLentAgain() {
        MemoryLink link = Links.up(0);
        for (int i = 0; i < 30; i++) {
            link.put(0, i);
        }
        link.run(40);
        EXPECT.same("no more than 24 come", link.look(1, Links.IN), 24);
        EXPECT.same("six wait", link.look(0, Links.OUT), 6);
        EXPECT.same("no LOAN", link.look(0, Links.LOAN), 0);
        for (int i = 0; i < 7; i++) {
            EXPECT.same("in order", link.take(1), i);
        }
        link.run(1);
        EXPECT.same("17 and 8 are too many", link.look(1, Links.SENT), Links.IDLE);
        EXPECT.same("the eighth", link.take(1), 7);
        link.run(1);
        EXPECT.same("16 and 8 are not", link.look(1, Links.SENT), Links.CREDIT);
        EXPECT.same("OWED grows", link.look(1, Links.OWED), 8);
        link.run(1);
        EXPECT.same("LOAN grows and is used", link.look(0, Links.LOAN), 7);
        EXPECT.same("the next goes", link.look(0, Links.SENT), 24);
        link.run(1);
        EXPECT.same("OWED shrinks", link.look(1, Links.OWED), 7);
        EXPECT.same("IN grows", link.look(1, Links.IN), 17);
        link.run(20);
        EXPECT.same("all came", link.look(1, Links.IN), 22);
        EXPECT.same("LOAN that is left", link.look(0, Links.LOAN), 2);
        EXPECT.same("OWED that is left", link.look(1, Links.OWED), 2);
    }

    private static void runsInOneCallOrMany() {
        MemoryLink once = Links.enabled(1);
        MemoryLink often = Links.enabled(1);
        once.command(108, 32, 9, 4, 8, 50, 0);
        often.command(108, 32, 9, 4, 8, 50, 0);
        once.run(80);
        for (int i = 0; i < 80; i++) {
            often.run(1);
        }
        for (int end = 0; end < 2; end++) {
            for (int what = 0; what < 10; what++) {
                EXPECT.same("one call or many, look(" + end + ", " + what + ")",
                        often.look(end, what), once.look(end, what));
            }
        }
    }
}
