import java.util.Arrays;

/** Promise 11: commands, and which packets are commands at all. */
final class CommandsTest {
    private static final Expect EXPECT = new Expect();

    public static void main(String[] args) {
        carriedOutOrRefused();
        forgottenPackets();
        theShortestCommand();
        leftoversOfAForgottenPacket();
        longPackets();
        brokenOffByAFall();
        oneCharacterATick();
        countedWhenItsEndIsTaken();
        EXPECT.finish();
    }

    private static void carriedOutOrRefused() {
        MemoryLink link = Links.up(1);
        int count = 0;
        int[][] rows = {{108, 32}, {76, 32}, {92, 32}, {108, 0}, {0, 32}, {255, 255}, {96, 32}};
        for (int[] row : rows) {
            link.command(row[0], row[1], 0, 0, 2, 0, 0);
            link.run(60);
            Links.drain(link, 0);
            count++;
            EXPECT.same("after " + row[0], link.commands(), count);
        }
    }

    private static void countAfter(String what, int due, int... characters) {
        MemoryLink link = Links.up(1);
        Links.putAll(link, 0, characters);
        Links.settle(link);
        EXPECT.same(what + ", commands", link.commands(), due);
        EXPECT.same(what + ", status", link.status(), due == 0 ? Links.NONE : 0);
        EXPECT.same(what + ", nothing stays in IN", link.look(1, Links.IN), 0);
    }

    private static void forgottenPackets() {
        int[] good = Links.packet(76, 0, 1);
        countAfter("good", 1, good);
        countAfter("empty", 0, Links.END);
        int[] broken = good.clone();
        broken[9] = Links.BREAK;
        countAfter("BREAK", 0, broken);
        int[] shorter = Arrays.copyOf(good, 9);
        shorter[8] = Links.END;
        countAfter("eight bytes", 0, shorter);
        int[] zeroCheck = {254, 1, 76, 32, 0, 0, 0, Links.check(254, 1, 76, 32, 0, 0, 0), Links.END};
        countAfter("eight bytes whose check is 0, as a missing byte might be read", 0, zeroCheck);
        int[] otherCheck = good.clone();
        otherCheck[8] ^= 1;
        countAfter("wrong check", 0, otherCheck);
        countAfter("not for a target", 0, withHead(253, 1));
        countAfter("another protocol", 0, withHead(254, 2));
        countAfter("both as they should be", 1, withHead(254, 1));
    }

    /** A sound read but for its first two bytes. */
    private static int[] withHead(int first, int second) {
        int[] head = {first, second, 76, 32, 0, 0, 0, 1};
        int[] whole = Arrays.copyOf(head, 10);
        whole[8] = Links.check(head);
        whole[9] = Links.END;
        return whole;
    }

    private static void theShortestCommand() {
        countAfter("nine bytes", 1, Links.packet(72, 31, 0));
    }

    private static void leftoversOfAForgottenPacket() {
        MemoryLink link = Links.up(1);
        Links.putAll(link, 0, 254, 1, 76, Links.BREAK);
        Links.putAll(link, 0, 254, 1, Links.END);
        Links.putAll(link, 0, Links.packet(76, 0, 1));
        Links.settle(link);
        EXPECT.same("each packet begins anew", link.commands(), 1);
        Links.putAll(link, 0, 32, 0, 0, 0, 1, Links.END);
        Links.settle(link);
        EXPECT.same("a command is not used twice", link.commands(), 1);
    }

    private static void longPackets() {
        for (int length : new int[] {30, 31, 32, 50}) {
            countAfter("read with " + length + " bytes of data", 1, Links.packet(76, 0, 1, new int[length]));
        }
        MemoryLink link = Links.up(1);
        Links.putAll(link, 0, 1, 2, 3);
        for (int i = 0; i < 100; i++) {
            link.put(0, 7);
            link.run(2);
        }
        link.put(0, Links.END);
        link.run(40);
        EXPECT.same("more than forty are dropped", link.commands(), 0);
        Links.putAll(link, 0, Links.packet(76, 0, 1));
        link.run(40);
        EXPECT.same("and the next is a command", link.commands(), 1);
    }

    private static void brokenOffByAFall() {
        MemoryLink link = Links.up(1);
        Links.putAll(link, 0, Links.packet(108, 0, 1, 5, Links.check(5)));
        link.run(9);
        link.spoil(0);
        link.run(60);
        EXPECT.same("half a command is forgotten", link.commands(), 0);
        EXPECT.same("up again", link.run(0), Links.states(Links.RUN, Links.RUN));
        Links.putAll(link, 0, Links.packet(108, 0, 1, 5, Links.check(5)));
        link.run(40);
        EXPECT.same("a whole one is not", link.commands(), 1);
    }

    private static void oneCharacterATick() {
        MemoryLink link = Links.up(1);
        link.command(108, 32, 0, 0, 0, 0, 0);
        link.run(11);
        EXPECT.same("taken as soon as it comes", link.look(1, Links.IN), 0);
        EXPECT.same("END is under way", link.commands(), 0);
        link.run(1);
        EXPECT.same("END is taken", link.commands(), 1);
        EXPECT.same("the reply is in OUT at once", link.look(1, Links.OUT), 8);
    }

    private static void countedWhenItsEndIsTaken() {
        MemoryLink link = new MemoryLink(1);
        link.command(108, 32, 0, 0, 0, 0, 0);
        EXPECT.same("put, not come", link.commands(), 0);
        EXPECT.same("no status", link.status(), Links.NONE);
    }
}
