/** Promise 10: memory, and what reads, writes and changes do with it. */
final class MemoryTest {
    private static final Expect EXPECT = new Expect();

    public static void main(String[] args) {
        bounds();
        writeWithStep();
        writeWithoutStep();
        writeToTheLastByte();
        writeOfNothing();
        wrongDataAreWrittenUnlessVerified();
        fewerDataThanTold();
        refusedWritesWriteNothing();
        change();
        changeIsRefusedWhenItsDataAreWrong();
        readLeavesTheMemoryAlone();
        forgottenPacketsWriteNothing();
        memoryOutlastsAFall();
        EXPECT.finish();
    }

    private static void bounds() {
        MemoryLink link = Links.up(1);
        for (int address : new int[] {-1, 32, 33, Integer.MIN_VALUE, Integer.MAX_VALUE}) {
            EXPECT.same("memory(" + address + ")", link.memory(address), Links.BAD);
        }
        EXPECT.same("the first", link.memory(0), 0);
        EXPECT.same("the last", link.memory(31), 0);
    }

    private static MemoryLink after(int... packet) {
        MemoryLink link = Links.up(1);
        Links.putAll(link, 0, packet);
        Links.settle(link);
        return link;
    }

    private static void writeWithStep() {
        MemoryLink link = Links.up(1);
        link.command(100, 32, 0, 3, 4, 254, 0);
        Links.settle(link);
        EXPECT.bytes("write with STEP", link, 2, 0, 254, 255, 0, 1, 0);
        link.command(124, 32, 0, 0, 16, 100, 0);
        Links.settle(link);
        for (int k = 0; k < 32; k++) {
            EXPECT.same("sixteen bytes", link.memory(k), k < 16 ? 100 + k : 0);
        }
    }

    private static void writeWithoutStep() {
        MemoryLink link = Links.up(1);
        link.command(96, 32, 0, 31, 16, 1, 0);
        Links.settle(link);
        EXPECT.same("the last of them stays", link.memory(31), 16);
        EXPECT.same("all went to one place", link.memory(30) + link.memory(0), 0);
    }

    private static void writeToTheLastByte() {
        MemoryLink link = Links.up(1);
        link.command(108, 32, 0, 29, 3, 7, 0);
        Links.settle(link);
        EXPECT.bytes("up to the last byte", link, 28, 0, 7, 8, 9);
    }

    private static void writeOfNothing() {
        MemoryLink link = Links.up(1);
        link.command(108, 32, 0, 31, 0, 7, 0);
        Links.settle(link);
        EXPECT.same("status", link.status(), 0);
        EXPECT.same("nothing is written", link.memory(31), 0);
    }

    private static void wrongDataAreWrittenUnlessVerified() {
        int[][] rows = {{2, 4}, {4, 5}, {8, 6}};
        for (int[] row : rows) {
            MemoryLink plain = Links.up(1);
            plain.command(108, 32, 0, 5, 3, 20, row[0]);
            Links.settle(plain);
            EXPECT.same("status", plain.status(), row[1]);
            EXPECT.bytes("written, spoil " + row[0], plain, 4, 0, 20, 21, 22, 0);

            MemoryLink verified = Links.up(1);
            verified.command(124, 32, 0, 5, 3, 20, row[0]);
            Links.settle(verified);
            EXPECT.same("status", verified.status(), row[1]);
            EXPECT.bytes("verified, spoil " + row[0], verified, 4, 0, 0, 0, 0, 0);
        }
    }

    private static void fewerDataThanTold() {
        MemoryLink some = after(Links.packet(108, 8, 5, 61, 62));
        EXPECT.same("status", some.status(), 5);
        EXPECT.bytes("all that there are", some, 7, 0, 61, 62, 0);

        MemoryLink none = after(Links.packet(108, 8, 5));
        EXPECT.same("status", none.status(), 5);
        EXPECT.bytes("none", none, 8, 0, 0, 0);

        int[] many = new int[40];
        for (int k = 0; k < many.length; k++) {
            many[k] = k + 1;
        }
        MemoryLink more = after(Links.packet(108, 8, 2, many));
        EXPECT.same("status", more.status(), 6);
        EXPECT.bytes("no more than told", more, 7, 0, 1, 2, 0);
    }

    private static void refusedWritesWriteNothing() {
        int[][] rows = {
            {44, 32, 0, 2, 2}, {236, 32, 0, 2, 2}, {110, 32, 0, 2, 2}, {109, 32, 0, 2, 2},
            {108, 31, 0, 2, 3}, {108, 32, 0, 17, 11}, {108, 32, 31, 2, 10}, {104, 32, 32, 1, 10},
        };
        for (int[] row : rows) {
            MemoryLink link = Links.up(1);
            link.command(row[0], row[1], 0, row[2], row[3], 9, 0);
            Links.settle(link);
            EXPECT.same("status of " + row[0], link.status(), row[4]);
            EXPECT.bytes("refused " + row[0], link, 0, new int[32]);
        }
    }

    private static void change() {
        MemoryLink link = Links.up(1);
        link.command(108, 32, 0, 9, 4, 0x5a, 0);
        Links.settle(link);
        int[] data = {0xff, 0x00, 0xf0, 0x0f, 0x0f, 0xff, 0x3c, 0x00};
        int[] checked = java.util.Arrays.copyOf(data, 9);
        checked[8] = Links.check(data);
        Links.putAll(link, 0, Links.packet(92, 9, 8, checked));
        Links.settle(link);
        EXPECT.same("status", link.status(), 0);
        EXPECT.bytes("changed where the mask is 1", link, 8, 0, 0x5f, 0x00, 0x70, 0x5d, 0);
    }

    private static void changeIsRefusedWhenItsDataAreWrong() {
        for (int spoil : new int[] {2, 4, 8}) {
            MemoryLink link = Links.up(1);
            link.command(92, 32, 0, 0, 4, 255, spoil);
            Links.settle(link);
            EXPECT.bytes("change with spoil " + spoil, link, 0, 0, 0, 0, 0);
        }
    }

    private static void readLeavesTheMemoryAlone() {
        MemoryLink link = after(Links.packet(76, 0, 4, 9, 9, 9, 9));
        EXPECT.same("data do not count", link.status(), 0);
        EXPECT.bytes("nor are they written", link, 0, new int[32]);
    }

    private static void forgottenPacketsWriteNothing() {
        MemoryLink link = Links.up(1);
        link.command(108, 32, 0, 0, 2, 5, 1);
        Links.settle(link);
        link.command(108, 32, 0, 0, 2, 5, 16);
        Links.settle(link);
        EXPECT.bytes("nothing is written", link, 0, new int[32]);
    }

    private static void memoryOutlastsAFall() {
        MemoryLink link = Links.up(1);
        link.command(108, 32, 0, 0, 2, 5, 0);
        Links.settle(link);
        link.spoil(0);
        link.run(60);
        EXPECT.bytes("after a fall", link, 0, 5, 6, 0);
    }
}
