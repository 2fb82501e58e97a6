/** Promise 2: control. */
final class ControlTest {
    private static final Expect EXPECT = new Expect();

    public static void main(String[] args) {
        enabledStartsAlone();
        autoStartsOnlyWhenItHears();
        enabledCannotStartAnEndThatIsNeither();
        bothOnAutoStayReady();
        eitherKeepsTheLinkRunning();
        neitherEndsIt();
        lastCallCounts();
        wrongEndsAreRefused();
        EXPECT.finish();
    }

    private static MemoryLink with(boolean enabled0, boolean auto0, boolean enabled1, boolean auto1) {
        MemoryLink link = new MemoryLink(0);
        EXPECT.yes("control(0)", link.control(0, enabled0, auto0));
        EXPECT.yes("control(1)", link.control(1, enabled1, auto1));
        return link;
    }

    private static void enabledStartsAlone() {
        MemoryLink link = with(true, false, false, false);
        EXPECT.same("before it starts", link.run(18), Links.states(Links.READY, Links.READY));
        EXPECT.same("enabled starts", link.run(1), Links.states(Links.STARTED, Links.READY));
    }

    private static void autoStartsOnlyWhenItHears() {
        MemoryLink link = with(false, true, true, false);
        EXPECT.same("auto has not heard", link.run(19), Links.states(Links.READY, Links.STARTED));
        EXPECT.same("auto has heard", link.run(1), Links.states(Links.STARTED, Links.STARTED));
        EXPECT.same("both are up", link.run(2), Links.states(Links.RUN, Links.RUN));
    }

    private static void enabledCannotStartAnEndThatIsNeither() {
        MemoryLink link = with(true, false, false, false);
        EXPECT.same("heard, but neither", link.run(25), Links.states(Links.STARTED, Links.READY));
        link.control(1, false, true);
        EXPECT.same("heard before auto", link.run(1), Links.states(Links.STARTED, Links.STARTED));
    }

    private static void bothOnAutoStayReady() {
        MemoryLink link = with(false, true, false, true);
        EXPECT.same("both wait for the other", link.run(200), Links.states(Links.READY, Links.READY));
        EXPECT.same("READY's clock", link.look(0, Links.CLOCK), 182);
        EXPECT.same("nobody fell", link.look(0, Links.FALLS), 0);
    }

    private static void eitherKeepsTheLinkRunning() {
        MemoryLink link = Links.up(0);
        link.control(0, false, true);
        EXPECT.same("auto alone", link.run(5), Links.states(Links.RUN, Links.RUN));
        link.control(0, true, false);
        EXPECT.same("enabled alone", link.run(5), Links.states(Links.RUN, Links.RUN));
        link.control(0, true, true);
        EXPECT.same("enabled and auto", link.run(5), Links.states(Links.RUN, Links.RUN));
    }

    private static void neitherEndsIt() {
        MemoryLink link = Links.up(0);
        link.control(0, false, false);
        EXPECT.same("not before a tick", link.run(0), Links.states(Links.RUN, Links.RUN));
        EXPECT.same("it falls", link.run(1), Links.states(Links.RESET, Links.RUN));
        EXPECT.same("one fall", link.look(0, Links.FALLS), 1);
        EXPECT.same("one tick of silence", link.run(1), Links.states(Links.RESET, Links.RUN));
        EXPECT.same("two ticks of silence", link.run(1), Links.states(Links.RESET, Links.RESET));
    }

    private static void lastCallCounts() {
        MemoryLink link = with(true, true, true, true);
        link.control(0, false, false);
        link.control(1, false, false);
        EXPECT.same("nobody starts", link.run(60), Links.states(Links.READY, Links.READY));
    }

    private static void wrongEndsAreRefused() {
        MemoryLink link = Links.up(0);
        for (int end : Links.NO_ENDS) {
            EXPECT.no("control(" + end + ")", link.control(end, false, false));
        }
        EXPECT.same("a refusal changes nothing", link.run(9), Links.states(Links.RUN, Links.RUN));
    }
}
