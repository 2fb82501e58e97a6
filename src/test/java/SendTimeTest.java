/** Promise 7: sendTime. */
final class SendTimeTest {
    private static final Expect EXPECT = new Expect();

    public static void main(String[] args) {
        sentOnceAndBeforeAllElse();
        laterTakesThePlaceOfEarlier();
        goodTimes();
        waitsForRun();
        outlastsAFall();
        timeNeedsNoLoan();
        wrongNumbers();
        EXPECT.finish();
    }

    private static void sentOnceAndBeforeAllElse() {
        MemoryLink link = Links.enabled(0);
        link.put(0, 1);
        link.run(20);
        EXPECT.yes("sendTime(0, 9)", link.sendTime(0, 9));
        link.run(1);
        EXPECT.same("before CREDIT", link.look(0, Links.SENT), Links.TIME + 9);
        EXPECT.same("nothing was lent with it", link.look(0, Links.OWED), 8);
        link.run(1);
        EXPECT.same("only once", link.look(0, Links.SENT), Links.CREDIT);
        EXPECT.same("it came", link.look(1, Links.CLOCK_TIME), 9);
        link.run(1);
        link.sendTime(0, 10);
        link.run(1);
        EXPECT.same("before OUT", link.look(0, Links.SENT), Links.TIME + 10);
        link.run(1);
        EXPECT.same("OUT comes next", link.look(0, Links.SENT), 1);
    }

    private static void laterTakesThePlaceOfEarlier() {
        MemoryLink link = Links.up(0);
        link.sendTime(1, 5);
        link.sendTime(1, 1);
        link.run(1);
        EXPECT.same("the later one", link.look(1, Links.SENT), Links.TIME + 1);
        link.run(1);
        EXPECT.same("and it alone", link.look(1, Links.SENT), Links.IDLE);
        EXPECT.same("time of end 0", link.look(0, Links.CLOCK_TIME), 1);
        EXPECT.same("end 1's own time stays", link.look(1, Links.CLOCK_TIME), 0);
        link.sendTime(1, 1);
        link.run(1);
        EXPECT.same("the same again is sent again", link.look(1, Links.SENT), Links.TIME + 1);
    }

    private static void goodTimes() {
        MemoryLink link = Links.up(0);
        int[][] due = {{1, 1}, {2, 2}, {2, 2}, {4, 2}, {3, 2}, {4, 3}, {62, 3}, {63, 4}, {0, 5}, {1, 6}, {0, 6}, {63, 6}};
        for (int[] row : due) {
            EXPECT.yes("sendTime", link.sendTime(0, row[0]));
            link.run(2);
            EXPECT.same("time", link.look(1, Links.CLOCK_TIME), row[0]);
            EXPECT.same("good times after " + row[0], link.look(1, Links.GOOD_TIMES), row[1]);
        }
        EXPECT.same("nobody fell", link.look(0, Links.FALLS) + link.look(1, Links.FALLS), 0);
        EXPECT.same("end 0 heard no time", link.look(0, Links.GOOD_TIMES), 0);
    }

    private static void waitsForRun() {
        MemoryLink link = Links.enabled(0);
        EXPECT.yes("asked for in RESET", link.sendTime(0, 1));
        link.run(19);
        EXPECT.same("not in STARTED", link.look(0, Links.SENT), Links.IDLE);
        link.run(1);
        EXPECT.same("not in CONNECTING", link.look(0, Links.SENT), Links.CREDIT);
        link.run(1);
        EXPECT.same("in RUN", link.look(0, Links.SENT), Links.TIME + 1);
    }

    private static void outlastsAFall() {
        MemoryLink link = Links.up(0);
        link.control(0, false, false);
        link.sendTime(0, 1);
        link.run(1);
        EXPECT.same("it fell before it sent", link.look(0, Links.SENT), Links.NONE);
        link.control(0, true, false);
        link.run(60);
        EXPECT.same("it came later", link.look(1, Links.CLOCK_TIME), 1);
        EXPECT.same("time and good times outlast a fall", link.look(1, Links.GOOD_TIMES), 1);
        link.spoil(0);
        link.run(2);
        EXPECT.same("its time after the fall", link.look(1, Links.CLOCK_TIME), 1);
        EXPECT.same("its good times after the fall", link.look(1, Links.GOOD_TIMES), 1);
    }

    private static void timeNeedsNoLoan() {
        MemoryLink link = Links.up(0);
        for (int i = 0; i < 30; i++) {
            link.put(0, i);
        }
        link.run(40);
        EXPECT.same("no LOAN", link.look(0, Links.LOAN), 0);
        link.sendTime(0, 1);
        link.run(2);
        EXPECT.same("it came", link.look(1, Links.CLOCK_TIME), 1);
        EXPECT.same("it is not in IN", link.look(1, Links.IN), 24);
    }

    private static void wrongNumbers() {
        MemoryLink link = Links.up(0);
        for (int end : Links.NO_ENDS) {
            EXPECT.no("sendTime to no end", link.sendTime(end, 1));
        }
        for (int t : new int[] {-1, 64, -3, Integer.MIN_VALUE, Integer.MAX_VALUE}) {
            EXPECT.no("sendTime(0, " + t + ")", link.sendTime(0, t));
        }
        link.run(1);
        EXPECT.same("nothing was asked for", link.look(0, Links.SENT), Links.IDLE);
        EXPECT.yes("the least", link.sendTime(0, 0));
        EXPECT.no("a refusal", link.sendTime(0, 64));
        link.run(1);
        EXPECT.same("takes no place", link.look(0, Links.SENT), Links.TIME);
        EXPECT.yes("the greatest", link.sendTime(0, 63));
        link.run(1);
        EXPECT.same("is sent", link.look(0, Links.SENT), Links.TIME + 63);
    }
}
