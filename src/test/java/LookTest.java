/** Promise 9: look. */
final class LookTest {
    private static final Expect EXPECT = new Expect();

    public static void main(String[] args) {
        eachNumberOfEachEnd();
        sentInTheLatestTick();
        lookChangesNothing();
        wrongNumbers();
        EXPECT.finish();
    }

    private static void eachNumberOfEachEnd() {
        MemoryLink link = Links.up(0);
        link.spoil(1);
        link.run(43);
        Links.putAll(link, 0, 1, 2, 3, 4, 5);
        link.sendTime(1, 1);
        link.run(1);
        link.sendTime(1, 2);
        link.run(2);
        compare(link, 0, 5, 21, 21, 24, 2, 0, 1, 2, 2, 3);
        compare(link, 1, 5, 21, 24, 22, 0, 2, 1, 0, 0, Links.IDLE);
    }

    private static void compare(MemoryLink link, int end, int... due) {
        for (int what = 0; what < due.length; what++) {
            EXPECT.same("look(" + end + ", " + what + ")", link.look(end, what), due[what]);
        }
    }

    private static void sentInTheLatestTick() {
        MemoryLink link = Links.up(0);
        link.put(0, 200);
        EXPECT.same("not sent yet", link.look(0, Links.SENT), Links.IDLE);
        link.run(1);
        EXPECT.same("sent", link.look(0, Links.SENT), 200);
        link.run(0);
        EXPECT.same("no tick since", link.look(0, Links.SENT), 200);
        link.run(1);
        EXPECT.same("a tick since", link.look(0, Links.SENT), Links.IDLE);
        link.control(0, false, false);
        link.run(1);
        EXPECT.same("none sent", link.look(0, Links.SENT), Links.NONE);
    }

    private static void lookChangesNothing() {
        MemoryLink link = Links.up(1);
        for (int i = 0; i < 40; i++) {
            int what = i % 10;
            EXPECT.same("twice the same", link.look(i / 20, what), link.look(i / 20, what));
        }
        EXPECT.same("still running", link.run(1), Links.states(Links.RUN, Links.RUN));
    }

    private static void wrongNumbers() {
        MemoryLink link = Links.up(0);
        for (int end : Links.NO_ENDS) {
            EXPECT.same("look of no end", link.look(end, 0), Links.BAD);
        }
        for (int what : new int[] {-1, 10, Integer.MIN_VALUE, Integer.MAX_VALUE}) {
            EXPECT.same("look(0, " + what + ")", link.look(0, what), Links.BAD);
            EXPECT.same("look(1, " + what + ")", link.look(1, what), Links.BAD);
        }
    }
}
