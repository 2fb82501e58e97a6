/** The edges that the section "Terms" names for the four parts of a tick. */
final class TickEdgeTest {
    private static final Expect EXPECT = new Expect();

    public static void main(String[] args) {
        arrivalIsOneTickLater();
        lostToTheLastTickOfReset();
        spoiledInEveryState();
        creditByEight();
        packetCharactersAndTimesOnlyInRun();
        timesThatAreGood();
        silenceInEveryStateThatHeard();
        noSilenceWithoutHearing();
        everyStateToItsLastTick();
        heardInTheTwelfthTick();
        creditInTheTwelfthTick();
        clockOfRunBeginsWithZero();
        readyHasNoLastTick();
        onlyRunNeedsEnabledOrAuto();
        statesThatSendNothing();
        connectingLendsUntilItCannot();
        connectingLendsByWhatIsInIn();
        runLendsByWhatIsInInAndOwed();
        loanToItsLast();
        orderOfSending();
        theTargetTakesOneCharacter();
        theTargetTakesInEveryState();
        EXPECT.finish();
    }

    private static MemoryLink onlyNearEnabled() {
        MemoryLink link = new MemoryLink(0);
        link.control(0, true, false);
        return link;
    }

    private static void arrivalIsOneTickLater() {
        EXPECT.under("ARRIVAL of the character that the other end sent in the tick before, if any");
        for (int end = 0; end < 2; end++) {
            MemoryLink link = Links.up(0);
            link.put(end, 9);
            link.run(1);
            EXPECT.same("sent", link.look(end, Links.SENT), 9);
            EXPECT.same("not there yet", link.look(1 - end, Links.IN), 0);
            EXPECT.same("nor counted", link.look(1 - end, Links.OWED), 24);
            link.run(1);
            EXPECT.same("there", link.look(1 - end, Links.IN), 1);
            EXPECT.same("and counted", link.look(1 - end, Links.OWED), 23);
        }
    }

    /**
     * End 0 sends IDLE in the ticks 19 to 30. End 1 falls when it gets a spoiled one, and is in RESET for
     * six ticks more: if the IDLE of tick 30 is lost in the last of them, it has heard nothing, and the
     * silence from then on is none.
     */
    private static void lostToTheLastTickOfReset() {
        EXPECT.under("In RESET it is lost, and nothing happens");
        MemoryLink lost = onlyNearEnabled();
        lost.run(23);
        lost.spoil(0);
        lost.run(2);
        EXPECT.same("fell in tick 25", lost.look(1, Links.STATE), Links.RESET);
        EXPECT.same("its last tick in RESET", lost.run(6), Links.states(Links.RESET, Links.WAIT));
        lost.run(10);
        EXPECT.same("the last IDLE was lost", lost.look(1, Links.FALLS), 1);
        EXPECT.same("it waits on", lost.look(1, Links.STATE), Links.WAIT);

        MemoryLink heard = onlyNearEnabled();
        heard.run(22);
        heard.spoil(0);
        heard.run(10);
        EXPECT.same("silence once", heard.look(1, Links.STATE), Links.WAIT);
        heard.run(1);
        EXPECT.same("the first tick in WAIT hears, so that silence makes it fall", heard.look(1, Links.FALLS), 2);
    }

    private static void spoiledInEveryState() {
        EXPECT.under("A SPOILED one is a FAULT");
        MemoryLink link = onlyNearEnabled();
        link.run(19);
        link.spoil(0);
        link.run(2);
        EXPECT.same("in READY", link.look(1, Links.FALLS), 1);
        link.spoil(0);
        link.run(2);
        EXPECT.same("not in RESET", link.look(1, Links.FALLS), 1);
        EXPECT.same("whose clock goes on", link.look(1, Links.CLOCK), 2);
        link.run(4);
        EXPECT.same("it is in WAIT", link.look(1, Links.STATE), Links.WAIT);
        link.spoil(0);
        link.run(2);
        EXPECT.same("in WAIT", link.look(1, Links.FALLS), 2);
        for (int ticks = 18; ticks <= 21; ticks++) {
            MemoryLink both = Links.enabled(0);
            both.run(ticks);
            both.spoil(0);
            both.run(2);
            EXPECT.same("when tick " + ticks + " is over", both.look(1, Links.FALLS), 1);
        }
    }

    private static void creditByEight() {
        EXPECT.under("otherwise LOAN grows by 8, and CONNECTING becomes RUN");
        MemoryLink link = Links.enabled(0);
        link.run(20);
        EXPECT.same("none yet", link.look(0, Links.LOAN), 0);
        for (int loan = 8; loan <= 24; loan += 8) {
            link.run(1);
            EXPECT.same("LOAN", link.look(0, Links.LOAN), loan);
            EXPECT.same("RUN", link.look(0, Links.STATE), Links.RUN);
        }
        link.run(100);
        EXPECT.same("never more than 24", link.look(0, Links.LOAN), 24);
    }

    /** Both ends fell, and end 1 has as many characters in IN as told, the last of them END. */
    private static MemoryLink fallenWith(int held) {
        MemoryLink link = Links.up(0);
        Links.putTimes(link, 0, held - 1, 7);
        link.put(0, Links.END);
        link.run(30);
        EXPECT.same("in IN of end 1", link.look(1, Links.IN), held);
        Links.bothFell(link);
        EXPECT.same("both in RESET", link.run(0), Links.states(Links.RESET, Links.RESET));
        return link;
    }

    /** As long as end 1 can't lend, it is in RUN and end 0 still in CONNECTING. */
    private static void packetCharactersAndTimesOnlyInRun() {
        EXPECT.under("A packet character: a fault if the state is not RUN");
        for (int c : new int[] {0, 255, Links.END, Links.BREAK}) {
            MemoryLink link = fallenWith(24);
            link.put(1, c);
            EXPECT.same("end 1 alone runs", link.run(21), Links.states(Links.CONNECTING, Links.RUN));
            EXPECT.same("and sends", link.look(1, Links.SENT), c);
            EXPECT.same("end 0 falls at " + c, link.run(1), Links.states(Links.RESET, Links.RUN));
            EXPECT.same("nothing came", link.take(0), Links.NONE);
            EXPECT.same("nothing is owed", link.look(0, Links.OWED), 0);
        }
        EXPECT.under("TIME: a fault if the state is not RUN");
        for (int t : new int[] {0, 1, 63}) {
            MemoryLink link = fallenWith(24);
            link.sendTime(1, t);
            link.run(21);
            EXPECT.same("sent", link.look(1, Links.SENT), Links.TIME + t);
            EXPECT.same("end 0 falls", link.run(1), Links.states(Links.RESET, Links.RUN));
            EXPECT.same("its time is as it was", link.look(0, Links.CLOCK_TIME), 0);
            EXPECT.same("none was good", link.look(0, Links.GOOD_TIMES), 0);
        }
    }

    private static void timesThatAreGood() {
        EXPECT.under("if t is one more than it was (0 after 63), the time is good once more");
        int[][] rows = {
            {0, 1, 1}, {0, 0, 0}, {0, 2, 0}, {0, 63, 0}, {31, 32, 1}, {31, 30, 0}, {31, 33, 0},
            {62, 63, 1}, {63, 0, 1}, {63, 63, 0}, {63, 62, 0}, {63, 1, 0}, {62, 0, 0},
        };
        for (int[] row : rows) {
            MemoryLink link = Links.up(0);
            link.sendTime(0, row[0]);
            link.run(2);
            int before = link.look(1, Links.GOOD_TIMES);
            link.sendTime(0, row[1]);
            link.run(2);
            EXPECT.same("the time after " + row[0], link.look(1, Links.CLOCK_TIME), row[1]);
            EXPECT.same(row[1] + " after " + row[0], link.look(1, Links.GOOD_TIMES) - before, row[2]);
        }
        MemoryLink round = Links.up(0);
        for (int i = 1; i <= 65; i++) {
            round.sendTime(1, i % 64);
            round.run(1);
        }
        round.run(1);
        EXPECT.same("once round and one more", round.look(0, Links.GOOD_TIMES), 65);
    }

    private static void silenceInEveryStateThatHeard() {
        EXPECT.under("two ticks of silence one behind the other are a fault");
        MemoryLink ready = onlyNearEnabled();
        ready.run(32);
        EXPECT.same("READY, one tick", ready.look(1, Links.FALLS), 0);
        ready.run(1);
        EXPECT.same("READY, two ticks", ready.look(1, Links.FALLS), 1);

        MemoryLink connecting = Links.enabled(0);
        connecting.run(18);
        connecting.spoil(0);
        EXPECT.same("end 1 fell", connecting.run(2), Links.states(Links.CONNECTING, Links.RESET));
        EXPECT.same("CONNECTING, one tick", connecting.run(1), Links.states(Links.CONNECTING, Links.RESET));
        EXPECT.same("CONNECTING, two ticks", connecting.run(1), Links.states(Links.RESET, Links.RESET));

        for (int end = 0; end < 2; end++) {
            MemoryLink run = Links.up(0);
            Links.fell(run, 1 - end);
            run.run(1);
            EXPECT.same("RUN, one tick", run.look(end, Links.STATE), Links.RUN);
            run.run(1);
            EXPECT.same("RUN, two ticks", run.look(end, Links.STATE), Links.RESET);
        }
    }

    private static void noSilenceWithoutHearing() {
        EXPECT.under("If no character arrives, and the end has heard the other one and is not in RESET");
        MemoryLink link = onlyNearEnabled();
        link.run(30);
        EXPECT.same("end 0 never heard", link.look(0, Links.FALLS), 0);
        EXPECT.same("and is in STARTED", link.look(0, Links.STATE), Links.STARTED);
        MemoryLink alone = new MemoryLink(0);
        alone.run(200);
        EXPECT.same("nobody heard, nobody fell", alone.look(0, Links.FALLS) + alone.look(1, Links.FALLS), 0);
        MemoryLink fallen = Links.up(0);
        fallen.control(0, false, false);
        fallen.control(1, false, false);
        fallen.run(200);
        EXPECT.same("nothing is heard after a fall", fallen.look(0, Links.FALLS), 1);
        EXPECT.same("so it is READY", fallen.look(0, Links.STATE), Links.READY);
    }

    private static void stateAfter(int ticks, int state, int clock) {
        MemoryLink link = onlyNearEnabled();
        link.run(ticks);
        EXPECT.same("state after " + ticks, link.look(0, Links.STATE), state);
        EXPECT.same("clock after " + ticks, link.look(0, Links.CLOCK), clock);
    }

    private static void everyStateToItsLastTick() {
        EXPECT.under("RESET with clock 6: WAIT");
        stateAfter(5, Links.RESET, 5);
        stateAfter(6, Links.WAIT, 0);
        EXPECT.under("WAIT with clock 12: READY");
        stateAfter(17, Links.WAIT, 11);
        stateAfter(18, Links.READY, 0);
        EXPECT.under("READY: STARTED, if the end is enabled");
        stateAfter(19, Links.STARTED, 0);
        EXPECT.under("STARTED: .. otherwise with clock 12 it falls");
        stateAfter(30, Links.STARTED, 11);
        stateAfter(31, Links.RESET, 0);
        EXPECT.under("A state that begins has clock 0");
        stateAfter(36, Links.RESET, 5);
        stateAfter(37, Links.WAIT, 0);
        stateAfter(50, Links.STARTED, 0);

        EXPECT.under("CONNECTING with clock 12: it falls");
        MemoryLink link = fallenWith(24);
        link.run(20);
        EXPECT.same("CONNECTING begins", link.look(0, Links.STATE), Links.CONNECTING);
        EXPECT.same("with clock 0", link.look(0, Links.CLOCK), 0);
        link.run(11);
        EXPECT.same("eleven ticks", link.look(0, Links.STATE), Links.CONNECTING);
        EXPECT.same("clock 11", link.look(0, Links.CLOCK), 11);
        link.run(1);
        EXPECT.same("twelve ticks", link.look(0, Links.STATE), Links.RESET);
        EXPECT.same("a second fall", link.look(0, Links.FALLS), 2);
    }

    private static void heardInTheTwelfthTick() {
        EXPECT.under("STARTED: CONNECTING, if the end has heard the other one; otherwise with clock 12 it falls");
        MemoryLink inTime = onlyNearEnabled();
        inTime.run(29);
        inTime.control(1, true, false);
        inTime.run(1);
        EXPECT.same("end 1 sends its first IDLE", inTime.look(1, Links.SENT), Links.IDLE);
        EXPECT.same("heard with clock 12", inTime.run(1), Links.states(Links.CONNECTING, Links.CONNECTING));

        MemoryLink late = onlyNearEnabled();
        late.run(30);
        late.control(1, true, false);
        EXPECT.same("one tick later", late.run(1), Links.states(Links.RESET, Links.STARTED));
    }

    /** End 1 lends as soon as IN has room; its CREDIT is with end 0 one tick later. */
    private static void creditInTheTwelfthTick() {
        EXPECT.under("the clock grows by 1 (not if the state became RUN in part 1: then it is 0)");
        MemoryLink inTime = fallenWith(24);
        inTime.run(30);
        Links.takeTimes(inTime, 1, 8);
        inTime.run(1);
        EXPECT.same("end 1 lends", inTime.look(1, Links.SENT), Links.CREDIT);
        EXPECT.same("clock 11", inTime.look(0, Links.CLOCK), 11);
        EXPECT.same("CREDIT comes in the twelfth", inTime.run(1), Links.states(Links.RUN, Links.RUN));
        EXPECT.same("clock of RUN", inTime.look(0, Links.CLOCK), 0);

        MemoryLink late = fallenWith(24);
        late.run(31);
        Links.takeTimes(late, 1, 8);
        EXPECT.same("one tick later", late.run(1), Links.states(Links.RESET, Links.RUN));
    }

    private static void clockOfRunBeginsWithZero() {
        EXPECT.under("(not if the state became RUN in part 1: then it is 0)");
        MemoryLink link = Links.enabled(0);
        link.run(21);
        for (int clock = 0; clock < 30; clock++) {
            EXPECT.same("clock of RUN", link.look(1, Links.CLOCK), clock);
            link.run(1);
        }
    }

    private static void readyHasNoLastTick() {
        EXPECT.under("READY: STARTED, if the end is enabled, or on auto and has heard the other one");
        MemoryLink link = new MemoryLink(0);
        link.run(200);
        link.run(118);
        EXPECT.same("neither", link.look(0, Links.STATE), Links.READY);
        EXPECT.same("its clock", link.look(0, Links.CLOCK), 300);
        link.control(0, false, true);
        link.run(100);
        EXPECT.same("auto, and has not heard", link.look(0, Links.STATE), Links.READY);
        link.control(0, true, false);
        link.run(1);
        EXPECT.same("enabled", link.look(0, Links.STATE), Links.STARTED);
        link.run(2);
        EXPECT.same("end 1 has heard, and is neither", link.look(1, Links.STATE), Links.READY);
        link.control(1, false, true);
        link.run(1);
        EXPECT.same("auto, and has heard", link.look(1, Links.STATE), Links.STARTED);
    }

    private static void onlyRunNeedsEnabledOrAuto() {
        EXPECT.under("RUN: it falls if it is neither enabled nor on auto");
        MemoryLink link = Links.enabled(0);
        link.run(19);
        link.control(0, false, false);
        EXPECT.same("STARTED goes on", link.run(1), Links.states(Links.CONNECTING, Links.CONNECTING));
        EXPECT.same("RUN falls in its first tick", link.run(1), Links.states(Links.RESET, Links.RUN));
        EXPECT.same("one fall", link.look(0, Links.FALLS), 1);
        EXPECT.same("its LOAN is gone", link.look(0, Links.LOAN), 0);
        EXPECT.same("its OWED is gone", link.look(0, Links.OWED), 0);
        EXPECT.same("it sends nothing", link.look(0, Links.SENT), Links.NONE);
        EXPECT.same("RESET's clock", link.look(0, Links.CLOCK), 0);

        MemoryLink started = onlyNearEnabled();
        started.run(19);
        started.control(0, false, false);
        EXPECT.same("STARTED to its last tick", started.run(11), Links.states(Links.STARTED, Links.READY));
        EXPECT.same("clock of STARTED", started.look(0, Links.CLOCK), 11);

        MemoryLink connecting = fallenWith(24);
        connecting.run(20);
        connecting.control(0, false, false);
        EXPECT.same("CONNECTING to its last tick", connecting.run(11), Links.states(Links.CONNECTING, Links.RUN));
        EXPECT.same("clock of CONNECTING", connecting.look(0, Links.CLOCK), 11);
    }

    private static void statesThatSendNothing() {
        EXPECT.under("In RESET, WAIT and READY nothing is sent. STARTED: IDLE");
        MemoryLink link = new MemoryLink(0);
        for (int end = 0; end < 2; end++) {
            link.put(end, 1);
            link.sendTime(end, 1);
        }
        for (int tick = 1; tick <= 40; tick++) {
            link.run(1);
            EXPECT.same("tick " + tick, link.look(0, Links.SENT), Links.NONE);
        }
        link.control(0, true, false);
        for (int tick = 1; tick <= 12; tick++) {
            link.run(1);
            EXPECT.same("tick " + tick + " of STARTED", link.look(0, Links.SENT), Links.IDLE);
            EXPECT.same("READY hears and sends nothing", link.look(1, Links.SENT), Links.NONE);
        }
        EXPECT.same("nothing was sent of OUT", link.look(0, Links.OUT), 1);
    }

    private static void connectingLendsUntilItCannot() {
        EXPECT.under("CONNECTING: CREDIT if the end can LEND, otherwise IDLE");
        MemoryLink link = fallenWith(24);
        link.run(19);
        for (int owed = 8; owed <= 24; owed += 8) {
            link.run(1);
            EXPECT.same("CREDIT", link.look(0, Links.SENT), Links.CREDIT);
            EXPECT.same("OWED", link.look(0, Links.OWED), owed);
        }
        link.run(1);
        EXPECT.same("still CONNECTING", link.look(0, Links.STATE), Links.CONNECTING);
        EXPECT.same("24 are owed", link.look(0, Links.SENT), Links.IDLE);
        EXPECT.same("and no more", link.look(0, Links.OWED), 24);
    }

    private static void connectingLendsByWhatIsInIn() {
        EXPECT.under("An end can lend if IN and OWED and 8 are together at most 24");
        for (int held : new int[] {1, 8, 15, 16, 17, 24}) {
            MemoryLink link = fallenWith(held);
            link.run(20);
            EXPECT.same("CONNECTING", link.look(1, Links.STATE), Links.CONNECTING);
            EXPECT.same("with " + held, link.look(1, Links.SENT), held <= 16 ? Links.CREDIT : Links.IDLE);
            EXPECT.same("OWED with " + held, link.look(1, Links.OWED), held <= 16 ? 8 : 0);
            link.run(5);
            int credits = (24 - held) / 8;
            EXPECT.same("all that can be lent with " + held, link.look(1, Links.OWED), 8 * credits);
        }
    }

    private static void runLendsByWhatIsInInAndOwed() {
        EXPECT.under("IN and OWED and 8 are together at most 24; with CREDIT its OWED grows by 8");
        MemoryLink link = Links.up(0);
        Links.putTimes(link, 0, 8, 7);
        link.run(10);
        Links.takeTimes(link, 1, 7);
        link.run(1);
        EXPECT.same("1 in IN, 16 owed", link.look(1, Links.SENT), Links.IDLE);
        EXPECT.same("none is lent", link.look(1, Links.OWED), 16);
        link.take(1);
        link.run(1);
        EXPECT.same("0 in IN, 16 owed", link.look(1, Links.SENT), Links.CREDIT);
        EXPECT.same("8 more", link.look(1, Links.OWED), 24);
    }

    private static void loanToItsLast() {
        EXPECT.under("the first character of OUT, if there is one and LOAN is not 0 (LOAN is one less then)");
        MemoryLink link = Links.up(0);
        Links.putTimes(link, 0, 26, 7);
        for (int left = 23; left >= 0; left--) {
            link.run(1);
            EXPECT.same("LOAN is one less", link.look(0, Links.LOAN), left);
            EXPECT.same("sent", link.look(0, Links.SENT), 7);
        }
        link.run(1);
        EXPECT.same("LOAN is 0", link.look(0, Links.SENT), Links.IDLE);
        EXPECT.same("and stays so", link.look(0, Links.LOAN), 0);
        EXPECT.same("two wait", link.look(0, Links.OUT), 2);
        MemoryLink empty = Links.up(0);
        empty.run(1);
        EXPECT.same("OUT is empty", empty.look(0, Links.SENT), Links.IDLE);
        EXPECT.same("LOAN is as it was", empty.look(0, Links.LOAN), 24);
    }

    private static void orderOfSending() {
        EXPECT.under("RUN: TIME t, if sending it was asked for (once for each time); otherwise CREDIT, .. OUT, .. IDLE");
        MemoryLink link = Links.enabled(0);
        link.run(20);
        Links.putAll(link, 0, 7);
        link.sendTime(0, 3);
        int[] due = {Links.TIME + 3, Links.CREDIT, Links.CREDIT, 7, Links.IDLE, Links.IDLE};
        for (int i = 0; i < due.length; i++) {
            link.run(1);
            EXPECT.same("in tick " + i + " of RUN", link.look(0, Links.SENT), due[i]);
        }
    }

    /** The target waits with a reply, so that a second command of twelve characters stays in IN. */
    private static MemoryLink withBacklog() {
        MemoryLink link = Links.up(1);
        Links.putTimes(link, 1, 24, 7);
        link.run(30);
        Links.putTimes(link, 1, 57, 7);
        link.command(108, 32, 0, 0, 1, 9, 0);
        link.run(20);
        link.command(108, 32, 0, 0, 1, 10, 0);
        link.run(20);
        EXPECT.same("in IN of end 1", link.look(1, Links.IN), 12);
        return link;
    }

    private static void theTargetTakesOneCharacter() {
        EXPECT.under("THE TARGET, if it is on, takes at most one character out of IN of end 1");
        MemoryLink link = withBacklog();
        Links.takeTimes(link, 0, 24);
        link.run(2);
        EXPECT.same("the reply goes", link.look(1, Links.OUT), 64);
        for (int left = 11; left >= 0; left--) {
            link.run(1);
            EXPECT.same("one a tick", link.look(1, Links.IN), left);
        }
        link.run(1);
        EXPECT.same("none of an empty IN", link.look(1, Links.IN), 0);
        EXPECT.same("two commands", link.commands(), 2);
    }

    private static void theTargetTakesInEveryState() {
        EXPECT.under("THE TARGET, if it is on, takes at most one character out of IN of end 1");
        MemoryLink link = withBacklog();
        Links.fell(link, 1);
        EXPECT.same("in RESET, while the reply goes", link.look(1, Links.IN), 12);
        link.run(1);
        EXPECT.same("in RESET", link.look(1, Links.STATE), Links.RESET);
        EXPECT.same("it takes one", link.look(1, Links.IN), 11);
        link.run(11);
        EXPECT.same("in WAIT", link.look(1, Links.STATE), Links.WAIT);
        EXPECT.same("it has taken all", link.look(1, Links.IN), 0);
        EXPECT.same("and obeyed", link.memory(0), 10);
        EXPECT.same("two commands", link.commands(), 2);
        EXPECT.same("the second reply waits in OUT", link.look(1, Links.OUT), 8);
        Links.drain(link, 0);
        link.run(80);
        EXPECT.same("and comes when both run", link.take(0), 67);
    }
}
