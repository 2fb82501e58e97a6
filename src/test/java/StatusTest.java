/** Promise 12: status, the first of the reasons that holds. */
final class StatusTest {
    private static final Expect EXPECT = new Expect();

    public static void main(String[] args) {
        everyInstruction();
        key();
        lengths();
        addresses();
        data();
        theFirstThatHolds();
        theLatestCommand();
        EXPECT.finish();
    }

    private static int statusOf(int instruction, int key, int address, int length, int spoil) {
        MemoryLink link = Links.up(1);
        link.command(instruction, key, 0, address, length, 3, spoil);
        link.run(60);
        return link.status();
    }

    private static void due(int due, int instruction, int key, int address, int length, int spoil) {
        String what = "instruction " + instruction + ", key " + key + ", address " + address
                + ", length " + length + ", spoil " + spoil;
        EXPECT.same(what, statusOf(instruction, key, address, length, spoil), due);
    }

    /** The known ones, written out: reads, the change, and every write. */
    private static void everyInstruction() {
        int[] known = {72, 76, 92, 96, 100, 104, 108, 112, 116, 120, 124};
        for (int instruction = 0; instruction < 256; instruction++) {
            boolean isKnown = false;
            for (int k : known) {
                isKnown |= k == instruction;
            }
            due(isKnown ? 0 : 2, instruction, 32, 0, 2, 0);
        }
    }

    private static void key() {
        for (int key : new int[] {0, 31, 33, 255}) {
            due(3, 108, key, 0, 2, 0);
            due(3, 76, key, 0, 2, 0);
            due(3, 92, key, 0, 2, 0);
        }
    }

    private static void lengths() {
        for (int length = 0; length <= 24; length++) {
            due(length > 16 ? 11 : 0, 108, 32, 0, length, 0);
            due(length > 16 ? 11 : 0, 96, 32, 0, length, 0);
            due(length > 16 ? 11 : 0, 76, 32, 0, length, 0);
            due(length > 16 ? 11 : 0, 72, 32, 0, length, 0);
            boolean fits = length == 2 || length == 4 || length == 6 || length == 8;
            due(fits ? 0 : 11, 92, 32, 0, length, 0);
        }
    }

    private static void addresses() {
        for (int step : new int[] {100, 108, 76}) {
            due(0, step, 32, 16, 16, 0);
            due(10, step, 32, 17, 16, 0);
            due(0, step, 32, 31, 1, 0);
            due(10, step, 32, 31, 2, 0);
            due(0, step, 32, 31, 0, 0);
            due(10, step, 32, 32, 0, 0);
            due(10, step, 32, 255, 1, 0);
        }
        for (int still : new int[] {96, 104, 72}) {
            due(0, still, 32, 31, 16, 0);
            due(0, still, 32, 31, 0, 0);
            due(10, still, 32, 32, 1, 0);
            due(10, still, 32, 255, 0, 0);
        }
        due(0, 92, 32, 28, 8, 0);
        due(10, 92, 32, 29, 8, 0);
        due(0, 92, 32, 31, 2, 0);
        due(10, 92, 32, 31, 4, 0);
        due(10, 92, 32, 32, 2, 0);
    }

    private static void data() {
        for (int instruction : new int[] {108, 124, 96, 92}) {
            due(4, instruction, 32, 0, 2, 2);
            due(5, instruction, 32, 0, 2, 4);
            due(6, instruction, 32, 0, 2, 8);
            due(4, instruction, 32, 0, 2, 4 + 8);
            due(6, instruction, 32, 0, 2, 2 + 8);
            due(5, instruction, 32, 0, 2, 2 + 4);
        }
        due(4, 108, 32, 0, 0, 2);
        due(5, 108, 32, 0, 0, 4);
        due(6, 108, 32, 0, 0, 8);
        due(0, 108, 32, 0, 0, 4 + 8);
        due(0, 76, 32, 0, 2, 2 + 4 + 8);
    }

    private static void theFirstThatHolds() {
        due(2, 44, 33, 255, 24, 2);
        due(3, 108, 33, 255, 24, 2);
        due(11, 108, 32, 255, 24, 2);
        due(10, 108, 32, 255, 16, 2);
        due(11, 92, 32, 255, 3, 4);
        due(10, 92, 32, 255, 2, 4);
    }

    private static void theLatestCommand() {
        MemoryLink link = Links.up(1);
        EXPECT.same("none yet", link.status(), Links.NONE);
        link.command(108, 0, 0, 0, 2, 0, 0);
        Links.settle(link);
        EXPECT.same("key", link.status(), 3);
        link.command(108, 32, 0, 0, 2, 0, 0);
        Links.settle(link);
        EXPECT.same("good", link.status(), 0);
        link.command(96, 32, 0, 99, 2, 0, 0);
        Links.settle(link);
        EXPECT.same("also without a reply", link.status(), 10);
        link.command(108, 32, 0, 0, 2, 0, 1);
        Links.settle(link);
        EXPECT.same("a forgotten packet has none", link.status(), 10);
    }
}
