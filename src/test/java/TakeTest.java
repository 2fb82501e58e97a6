/** Promise 6: take. */
final class TakeTest {
    private static final Expect EXPECT = new Expect();

    public static void main(String[] args) {
        firstInFirstOut();
        wrongEnds();
        targetKeepsEndOne();
        takingMakesNoPacketClosed();
        EXPECT.finish();
    }

    private static void firstInFirstOut() {
        MemoryLink link = Links.up(0);
        EXPECT.same("nothing yet", link.take(0), Links.NONE);
        EXPECT.same("nothing yet", link.take(1), Links.NONE);
        for (int i = 0; i < 100; i++) {
            link.put(0, i);
            link.put(1, 255 - i);
            if (i % 5 == 4) {
                link.run(20);
                for (int k = i - 4; k <= i; k++) {
                    EXPECT.same("end 1 gets", link.take(1), k);
                    EXPECT.same("end 0 gets", link.take(0), 255 - k);
                }
            }
        }
        EXPECT.same("IN is empty", link.look(0, Links.IN), 0);
    }

    private static void wrongEnds() {
        MemoryLink link = Links.up(0);
        link.put(0, 3);
        link.run(3);
        for (int end : Links.NO_ENDS) {
            EXPECT.same("take(" + end + ")", link.take(end), Links.BAD);
        }
        EXPECT.taken("still there", link, 1, 3);
    }

    private static void targetKeepsEndOne() {
        MemoryLink link = Links.up(1);
        EXPECT.same("empty, BAD comes before NONE", link.take(1), Links.BAD);
        link.put(0, 3);
        link.run(1);
        EXPECT.same("BAD with the target on", link.take(1), Links.BAD);
        EXPECT.same("end 0 is free", link.take(0), Links.NONE);
    }

    private static void takingMakesNoPacketClosed() {
        MemoryLink link = Links.up(0);
        link.put(0, 3);
        link.run(3);
        EXPECT.same("taken before the fall", link.take(1), 3);
        link.control(1, false, false);
        link.run(1);
        EXPECT.taken("BREAK comes all the same", link, 1, Links.BREAK);
    }
}
