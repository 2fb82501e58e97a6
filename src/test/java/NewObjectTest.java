/** Promise 1: a new object, with its target on or off. */
final class NewObjectTest {
    private static final Expect EXPECT = new Expect();

    public static void main(String[] args) {
        for (int target : new int[] {0, 1, 2, -1, 256, Integer.MIN_VALUE, Integer.MAX_VALUE}) {
            allIsAtItsBeginning(target);
        }
        targetIsOnUnlessZero();
        EXPECT.finish();
    }

    private static void allIsAtItsBeginning(int target) {
        MemoryLink link = new MemoryLink(target);
        int[] due = {0, 0, 0, 0, 0, 0, 0, 0, 0, Links.NONE};
        for (int end = 0; end < 2; end++) {
            for (int what = 0; what < due.length; what++) {
                EXPECT.same("new, look(" + end + ", " + what + ")", link.look(end, what), due[what]);
            }
        }
        EXPECT.bytes("new", link, 0, new int[32]);
        EXPECT.same("new, commands", link.commands(), 0);
        EXPECT.same("new, status", link.status(), Links.NONE);
        EXPECT.same("new, take(0)", link.take(0), Links.NONE);
        EXPECT.same("new, take(1)", link.take(1), target == 0 ? Links.NONE : Links.BAD);
        EXPECT.same("new, run(60)", link.run(60), Links.states(Links.READY, Links.READY));
    }

    private static void targetIsOnUnlessZero() {
        for (int target : new int[] {0, 1, -1, Integer.MIN_VALUE, 256}) {
            MemoryLink link = Links.up(target);
            link.command(108, 32, 0, 0, 1, 77, 0);
            link.run(40);
            boolean on = target != 0;
            EXPECT.same("target " + target + ", memory", link.memory(0), on ? 77 : 0);
            EXPECT.same("target " + target + ", commands", link.commands(), on ? 1 : 0);
            EXPECT.same("target " + target + ", status", link.status(), on ? 0 : Links.NONE);
            EXPECT.same("target " + target + ", IN of end 1", link.look(1, Links.IN), on ? 0 : 12);
            EXPECT.same("target " + target + ", reply", link.look(0, Links.IN), on ? 8 : 0);
        }
    }
}
