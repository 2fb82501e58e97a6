import java.util.Arrays;

/** Promise 5: command. */
final class CommandTest {
    private static final Expect EXPECT = new Expect();

    public static void main(String[] args) {
        charactersOfACommand();
        everySpoiling();
        dataOnlyWithWriteOrVerify();
        fillWrapsAround();
        edgesOfTheNumbers();
        wrongNumbers();
        fullByItsOwnLength();
        fullWhileTheRestIsThrownAway();
        EXPECT.finish();
    }

    /** What a command puts into OUT, as the document's words make it. */
    private static int[] due(int instruction, int key, int number, int address, int length, int fill, int spoil) {
        int[] head = {254, 1, instruction, key, number / 256, number % 256, address, length};
        int[] whole = Arrays.copyOf(head, 50);
        int count = 8;
        whole[count++] = Links.check(head) ^ (spoil & 1);
        if ((instruction & 48) != 0) {
            int[] data = new int[length];
            for (int k = 0; k < length; k++) {
                data[k] = (fill + k) % 256;
                whole[count++] = data[k];
            }
            if ((spoil & 4) == 0) {
                whole[count++] = Links.check(data) ^ ((spoil & 2) / 2);
            }
            if ((spoil & 8) != 0) {
                whole[count++] = 0;
            }
        }
        whole[count++] = (spoil & 16) != 0 ? Links.BREAK : Links.END;
        return Arrays.copyOf(whole, count);
    }

    private static void compare(int instruction, int key, int number, int address, int length, int fill, int spoil) {
        int[] due = due(instruction, key, number, address, length, fill, spoil);
        MemoryLink link = Links.up(0);
        String what = "command " + instruction + ", length " + length + ", spoil " + spoil;
        EXPECT.same(what, link.command(instruction, key, number, address, length, fill, spoil), due.length);
        for (int i = 0; i < due.length; i++) {
            link.run(4);
            EXPECT.same(what + ", character " + i, link.take(1), due[i]);
        }
        EXPECT.same(what + ", nothing more", link.look(0, Links.OUT) + link.look(1, Links.IN), 0);
    }

    private static void charactersOfACommand() {
        MemoryLink link = Links.up(0);
        EXPECT.same("command", link.command(108, 32, 4660, 3, 2, 65, 0), 13);
        link.run(40);
        int headCheck = Links.check(254, 1, 108, 32, 18, 52, 3, 2);
        EXPECT.taken("command", link, 1, 254, 1, 108, 32, 18, 52, 3, 2, headCheck,
                65, 66, Links.check(65, 66), Links.END);
        link.put(0, 9);
        EXPECT.same("what was in OUT counts", link.command(76, 0, 0, 0, 24, 0, 0), 11);
        EXPECT.same("end 1's OUT is left alone", link.look(1, Links.OUT), 0);
        // The check of known bytes, by hand: 1 becomes 224 by the first odd step, then 112, 56, .. with
        // each odd one mixed again.
        EXPECT.same("the check of 0", Links.check(0), 0);
        EXPECT.same("the check of 1", Links.check(1), 145);
        EXPECT.same("the check of 128", Links.check(128), 224);
    }

    private static void everySpoiling() {
        for (int spoil = 0; spoil < 32; spoil++) {
            compare(108, 32, 513, 4, 3, 20, spoil);
            compare(108, 32, 513, 4, 0, 20, spoil);
            compare(76, 32, 513, 4, 3, 20, spoil);
        }
    }

    private static void dataOnlyWithWriteOrVerify() {
        for (int instruction : new int[] {0, 15, 16, 32, 48, 64, 72, 76, 80, 92, 96, 200, 207, 239, 255}) {
            compare(instruction, 32, 1, 2, 5, 6, 0);
        }
    }

    private static void fillWrapsAround() {
        compare(124, 32, 1, 2, 5, 253, 0);
        compare(124, 32, 1, 2, 24, 240, 0);
    }

    private static void edgesOfTheNumbers() {
        compare(0, 0, 0, 0, 0, 0, 0);
        compare(255, 255, 65535, 255, 24, 255, 31);
        compare(255, 255, 255, 255, 24, 255, 8);
        compare(255, 255, 256, 255, 24, 255, 8);
    }

    private static void wrongNumbers() {
        MemoryLink link = Links.up(1);
        int[] greatest = {255, 255, 65535, 255, 24, 255, 31};
        for (int i = 0; i < 7; i++) {
            for (int wrong : new int[] {-1, greatest[i] + 1, Integer.MIN_VALUE, Integer.MAX_VALUE}) {
                int[] a = greatest.clone();
                a[i] = wrong;
                EXPECT.same("argument " + i + " = " + wrong,
                        link.command(a[0], a[1], a[2], a[3], a[4], a[5], a[6]), Links.BAD);
            }
        }
        EXPECT.same("nothing in OUT", link.look(0, Links.OUT), 0);
    }

    private static void fullByItsOwnLength() {
        MemoryLink link = new MemoryLink(1);
        for (int i = 0; i < 54; i++) {
            link.put(0, i);
        }
        EXPECT.same("ten places, eleven needed", link.command(108, 32, 0, 0, 0, 0, 0), Links.FULL);
        EXPECT.same("nothing of it came", link.look(0, Links.OUT), 54);
        EXPECT.same("bad comes before full", link.command(108, 32, 0, 0, 0, 0, 32), Links.BAD);
        EXPECT.same("ten places, ten needed", link.command(108, 32, 0, 0, 0, 0, 4), 64);
        EXPECT.same("no place at all", link.command(76, 32, 0, 0, 0, 0, 0), Links.FULL);
    }

    private static void fullWhileTheRestIsThrownAway() {
        MemoryLink link = Links.up(1);
        link.put(0, 1);
        link.run(2);
        link.spoil(0);
        link.spoil(1);
        link.run(2);
        EXPECT.same("thrown away", link.command(76, 32, 0, 0, 0, 0, 0), Links.FULL);
        EXPECT.same("bad comes first", link.command(256, 32, 0, 0, 0, 0, 0), Links.BAD);
        EXPECT.same("its end", link.put(0, Links.END), 0);
        EXPECT.same("room again", link.command(76, 32, 0, 0, 0, 0, 0), 10);
    }
}
