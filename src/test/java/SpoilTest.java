/** Promise 8: spoil. */
final class SpoilTest {
    private static final Expect EXPECT = new Expect();

    public static void main(String[] args) {
        theOtherEndFalls();
        onlyTheNextOne();
        waitsForACharacter();
        inEveryStateThatHears();
        whateverIsSent();
        wrongEnds();
        EXPECT.finish();
    }

    private static void theOtherEndFalls() {
        for (int end = 0; end < 2; end++) {
            MemoryLink link = Links.up(0);
            EXPECT.yes("spoil", link.spoil(end));
            EXPECT.same("sent, not there yet", link.run(1), Links.states(Links.RUN, Links.RUN));
            EXPECT.same("look tells what was sent", link.look(end, Links.SENT), Links.IDLE);
            link.run(1);
            EXPECT.same("the other falls", link.look(1 - end, Links.STATE), Links.RESET);
            EXPECT.same("this one does not", link.look(end, Links.STATE), Links.RUN);
            EXPECT.same("one fall", link.look(1 - end, Links.FALLS), 1);
            EXPECT.same("silence is next", link.run(2), 0);
        }
    }

    private static void onlyTheNextOne() {
        MemoryLink link = Links.up(0);
        link.spoil(0);
        link.spoil(0);
        link.run(100);
        EXPECT.same("spoiled twice is spoiled once", link.look(1, Links.FALLS), 1);
        EXPECT.same("up again", link.run(0), Links.states(Links.RUN, Links.RUN));
    }

    private static void waitsForACharacter() {
        MemoryLink link = Links.enabled(0);
        link.spoil(0);
        EXPECT.same("nothing sent yet", link.run(18), Links.states(Links.READY, Links.READY));
        EXPECT.same("the first IDLE", link.run(1), Links.states(Links.STARTED, Links.STARTED));
        EXPECT.same("is spoiled", link.run(1), Links.states(Links.CONNECTING, Links.RESET));
    }

    private static void inEveryStateThatHears() {
        MemoryLink link = new MemoryLink(0);
        link.control(0, true, false);
        link.run(19);
        link.spoil(0);
        link.run(2);
        EXPECT.same("in READY", link.look(1, Links.FALLS), 1);
        link.run(6);
        EXPECT.same("in WAIT again", link.look(1, Links.STATE), Links.WAIT);
        link.spoil(0);
        link.run(2);
        EXPECT.same("in WAIT", link.look(1, Links.FALLS), 2);
        EXPECT.same("WAIT falls to RESET", link.look(1, Links.STATE), Links.RESET);
    }

    private static void whateverIsSent() {
        MemoryLink data = Links.up(0);
        Links.putAll(data, 0, 1, 2, Links.END);
        data.run(1);
        data.spoil(0);
        data.run(2);
        EXPECT.taken("spoiled data do not come", data, 1, 1, Links.BREAK);

        MemoryLink closing = Links.up(0);
        Links.putAll(closing, 0, 1, Links.END, 2, Links.END);
        closing.run(1);
        closing.spoil(0);
        closing.run(2);
        EXPECT.taken("a spoiled END does not come", closing, 1, 1, Links.BREAK);

        MemoryLink time = Links.up(0);
        time.sendTime(0, 1);
        time.spoil(0);
        time.run(2);
        EXPECT.same("a spoiled time is a fault", time.look(1, Links.FALLS), 1);
        EXPECT.same("and does not count", time.look(1, Links.CLOCK_TIME), 0);

        MemoryLink credit = Links.enabled(0);
        credit.run(20);
        credit.spoil(0);
        credit.run(2);
        EXPECT.same("a spoiled CREDIT is a fault", credit.look(1, Links.STATE), Links.RESET);
        EXPECT.same("and lends nothing", credit.look(1, Links.LOAN), 0);
        EXPECT.same("though it is owed", credit.look(0, Links.OWED), 24);
    }

    private static void wrongEnds() {
        MemoryLink link = Links.up(0);
        for (int end : Links.NO_ENDS) {
            EXPECT.no("spoil(" + end + ")", link.spoil(end));
        }
        EXPECT.same("nobody falls", link.run(9), Links.states(Links.RUN, Links.RUN));
    }
}
