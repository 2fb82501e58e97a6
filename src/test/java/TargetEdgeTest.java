import java.util.Arrays;

/** The edges that the section "Terms" names for the target, its status, and what is done. */
final class TargetEdgeTest {
    private static final Expect EXPECT = new Expect();
    /** Ticks in which a full OUT is sent and taken, and a reply comes. */
    private static final int ENOUGH = 120;
    private static final int READ = 64 + 8 + 4;
    private static final int READ_ONE = 64 + 8;
    private static final int CHANGE = 64 + 16 + 8 + 4;
    private static final int WRITE = 64 + 32 + 8 + 4;
    private static final int WRITE_ONE = 64 + 32 + 8;
    private static final int VERIFIED = 64 + 32 + 16 + 8 + 4;

    public static void main(String[] args) {
        memoryAtFirst();
        packetsOfMoreThanForty();
        packetsOfMoreThanTwoHundredAndFifty();
        brokenAnywhere();
        atLeastNine();
        firstTwoBytes();
        checkOfTheHead();
        checkOfNothing();
        unknownInstructions();
        keys();
        lengths();
        lastAddress();
        lastAddressOfAChange();
        howManyData();
        lastByteOfData();
        readsIgnoreData();
        theFirstThatHolds();
        readAtTheEdges();
        writeWithStep();
        writeWithoutStep();
        writeOfFewer();
        writeOfWrongData();
        changeOfEachLength();
        changeOfEachBit();
        changeOnlyWithStatusZero();
        EXPECT.finish();
    }

    private static MemoryLink after(int... packet) {
        MemoryLink link = Links.up(1);
        Links.putAll(link, 0, packet);
        link.run(ENOUGH);
        return link;
    }

    private static void status(String what, int due, int... packet) {
        MemoryLink link = after(packet);
        EXPECT.same(what + ", status", link.status(), due);
        EXPECT.same(what + ", commands", link.commands(), due == Links.NONE ? 0 : 1);
    }

    private static void memoryAtFirst() {
        EXPECT.under("THE TARGET has a MEMORY of 32 bytes, at first 0");
        MemoryLink link = Links.up(1);
        EXPECT.bytes("at first", link, 0, new int[32]);
        EXPECT.same("there is no byte 32", link.memory(32), Links.BAD);
    }

    private static void packetsOfMoreThanForty() {
        EXPECT.under("It collects the data of a packet, at most 40 (more are dropped, but counted)");
        for (int count : new int[] {39, 40, 41, 42, 50, 63}) {
            int[] data = Links.rising(count - 9, 100);
            MemoryLink read = after(Links.packet(READ, 30, 2, data));
            EXPECT.same("a read of " + count + " bytes", read.status(), 0);
            EXPECT.same("its reply", read.look(0, Links.IN), 12);
            MemoryLink write = after(Links.packet(WRITE, 4, 16, data));
            EXPECT.same("a write of " + count + " bytes", write.status(), 6);
            EXPECT.bytes("its first sixteen data", write, 4, Links.rising(16, 100));
            EXPECT.same("and no more", write.memory(20), 0);
            Links.putAll(write, 0, Links.packet(WRITE, 4, 1, Links.checked(3)));
            write.run(ENOUGH);
            EXPECT.same("the packet behind it", write.status(), 0);
        }
    }

    /** So many that a count of eight bits would come round to the one that is due. */
    private static void packetsOfMoreThanTwoHundredAndFifty() {
        EXPECT.under("(more are dropped, but counted)");
        MemoryLink link = Links.up(1);
        int[] packet = Links.packet(VERIFIED, 0, 1, new int[256 + 2]);
        for (int i = 0; i < packet.length; i++) {
            link.put(0, packet[i]);
            if (i % 8 == 7) {
                link.run(9);
            }
        }
        link.run(ENOUGH);
        EXPECT.same("258 bytes of data are more than 2", link.status(), 6);
        EXPECT.same("one command", link.commands(), 1);
    }

    private static void brokenAnywhere() {
        EXPECT.under("With BREAK the packet is forgotten");
        int[] whole = Links.packet(WRITE, 0, 1, Links.checked(5));
        for (int length = 0; length < whole.length; length++) {
            int[] broken = Arrays.copyOf(whole, length + 1);
            broken[length] = Links.BREAK;
            MemoryLink link = after(broken);
            EXPECT.same("BREAK behind " + length, link.commands(), 0);
            EXPECT.same("no status", link.status(), Links.NONE);
            EXPECT.same("nothing is written", link.memory(0), 0);
            Links.putAll(link, 0, whole);
            link.run(ENOUGH);
            EXPECT.same("the next one counts", link.commands(), 1);
            EXPECT.same("and is carried out", link.memory(0), 5);
        }
    }

    private static void atLeastNine() {
        EXPECT.under("With END it is a COMMAND if its bytes b(0), b(1), .. are at least 9");
        int[] whole = Links.packet(READ, 0, 0);
        for (int count = 0; count <= 9; count++) {
            int[] part = Arrays.copyOf(whole, count + 1);
            part[count] = Links.END;
            status(count + " bytes", count < 9 ? Links.NONE : 0, part);
        }
        fewerBytesWhoseCheckIsZero();
        MemoryLink again = after(whole);
        int[] first = Arrays.copyOf(whole, 9);
        first[8] = Links.END;
        Links.putAll(again, 0, first);
        again.run(ENOUGH);
        EXPECT.same("eight bytes behind the same nine", again.commands(), 1);
    }

    /** A byte that is not there might be taken for 0, and that is the check of these and of zeros behind them. */
    private static void fewerBytesWhoseCheckIsZero() {
        int[] head = {254, 1, READ, 32, 0, 0, 0, 0};
        for (int count = 3; count <= 8; count++) {
            int[] bytes = Links.checked(Arrays.copyOf(head, count - 1));
            EXPECT.same("the check of " + count, Links.check(bytes), 0);
            int[] packet = Arrays.copyOf(bytes, count + 1);
            packet[count] = Links.END;
            status(count + " bytes whose check is 0", Links.NONE, packet);
        }
    }

    private static void firstTwoBytes() {
        EXPECT.under("and b(0) = 254, b(1) = 1");
        for (int first : new int[] {0, 1, 67, 126, 253, 254, 255}) {
            status("b(0) = " + first, first == 254 ? 0 : Links.NONE,
                    Links.packetOf(new int[] {first, 1, READ, 32, 0, 0, 0, 1}));
        }
        for (int second : new int[] {0, 1, 2, 129, 254, 255}) {
            status("b(1) = " + second, second == 1 ? 0 : Links.NONE,
                    Links.packetOf(new int[] {254, second, READ, 32, 0, 0, 0, 1}));
        }
    }

    private static void checkOfTheHead() {
        EXPECT.under("and b(8) is the CHECK of the eight before; otherwise it is forgotten");
        for (int bit = 1; bit < 256; bit *= 2) {
            int[] packet = Links.packet(READ, 0, 1);
            packet[8] ^= bit;
            status("b(8) differs by " + bit, Links.NONE, packet);
        }
        for (int i = 0; i < 8; i++) {
            int[] packet = Links.packet(READ, 0, 1);
            packet[i] ^= 128;
            status("b(" + i + ") differs", Links.NONE, packet);
        }
    }

    private static void checkOfNothing() {
        EXPECT.under("The CHECK of bytes: c begins with 0");
        status("a write of none, check 0", 0, Links.packet(WRITE, 0, 0, 0));
        status("a write of none, check 1", 4, Links.packet(WRITE, 0, 0, 1));
        status("a write of none, check 224", 4, Links.packet(WRITE, 0, 0, 224));
        EXPECT.under("for each byte: c becomes c xor the byte, and then eight times: ..");
        int[][] known = {{0, 0}, {1, 145}, {128, 224}, {2, 227}, {255, 207}};
        for (int[] row : known) {
            status("the check of " + row[0], 0, Links.packet(WRITE, 0, 1, row[0], row[1]));
            status("not the check of " + row[0], 4, Links.packet(WRITE, 0, 1, row[0], row[1] ^ 128));
        }
    }

    private static void unknownInstructions() {
        EXPECT.under("64 has to be in it, 128 and 2 and 1 not; .. all others without WRITE are unknown");
        for (int instruction = 0; instruction < 256; instruction++) {
            boolean bits = (instruction & 64) != 0 && (instruction & (128 + 2 + 1)) == 0;
            boolean write = (instruction & 32) != 0;
            boolean verify = (instruction & 16) != 0;
            boolean reply = (instruction & 8) != 0;
            boolean step = (instruction & 4) != 0;
            boolean known = bits && (write || (reply && !verify) || (verify && reply && step));
            status("instruction " + instruction, known ? 0 : 2,
                    Links.packet(instruction, 0, 2, Links.checked(1, 2)));
        }
    }

    private static void keys() {
        EXPECT.under("3, the key is not 32");
        for (int key = 0; key < 256; key++) {
            status("key " + key, key == 32 ? 0 : 3, Links.packetOf(new int[] {254, 1, READ, key, 0, 0, 0, 1}));
        }
    }

    private static void lengths() {
        EXPECT.under("11, it is a CHANGE and n is not 2, 4, 6 or 8, or n is more than 16");
        for (int n = 0; n <= 20; n++) {
            int[] data = Links.checked(Links.rising(n, 1));
            boolean changes = n == 2 || n == 4 || n == 6 || n == 8;
            status("a change, n = " + n, changes ? 0 : 11, Links.packet(CHANGE, 0, n, data));
            for (int instruction : new int[] {READ, READ_ONE, WRITE, WRITE_ONE, VERIFIED}) {
                status(instruction + ", n = " + n, n <= 16 ? 0 : 11, Links.packet(instruction, 0, n, data));
            }
        }
        for (int instruction : new int[] {READ, READ_ONE, WRITE, WRITE_ONE, VERIFIED, CHANGE}) {
            for (int n : new int[] {32, 127, 128, 130, 254, 255}) {
                status(instruction + ", n = " + n, 11, Links.packet(instruction, 0, n, Links.checked(1)));
            }
        }
    }

    private static void lastAddress() {
        EXPECT.under("10, the last address, which is address + m - 1 with STEP (at least the address), "
                + "otherwise the address, is more than 31");
        for (int address : new int[] {0, 15, 16, 17, 30, 31, 32, 33, 240, 241, 255}) {
            for (int n : new int[] {0, 1, 2, 15, 16}) {
                int[] data = Links.checked(Links.rising(n, 1));
                int last = Math.max(address, address + n - 1);
                for (int instruction : new int[] {READ, WRITE, VERIFIED}) {
                    status(instruction + " at " + address + ", n = " + n, last > 31 ? 10 : 0,
                            Links.packet(instruction, address, n, data));
                }
                for (int instruction : new int[] {READ_ONE, WRITE_ONE}) {
                    status(instruction + " at " + address + ", n = " + n, address > 31 ? 10 : 0,
                            Links.packet(instruction, address, n, data));
                }
            }
        }
    }

    private static void lastAddressOfAChange() {
        EXPECT.under("Let m be n / 2 for a CHANGE");
        for (int n = 2; n <= 8; n += 2) {
            int[] data = Links.checked(Links.rising(n, 1));
            status("up to byte 31, n = " + n, 0, Links.packet(CHANGE, 32 - n / 2, n, data));
            status("one beyond it, n = " + n, 10, Links.packet(CHANGE, 33 - n / 2, n, data));
        }
    }

    private static void howManyData() {
        EXPECT.under("5, there are fewer than n + 1 bytes of data; 6, there are more");
        int[][] rows = {{WRITE, 0}, {WRITE, 1}, {WRITE, 16}, {WRITE_ONE, 16}, {VERIFIED, 16}, {CHANGE, 2}, {CHANGE, 8}};
        for (int[] row : rows) {
            int n = row[1];
            for (int count = 0; count <= n + 4; count++) {
                int[] data = Arrays.copyOf(Links.checked(Links.rising(n, 1)), count);
                int due = count < n + 1 ? 5 : count > n + 1 ? 6 : 0;
                status(row[0] + ", n = " + n + ", " + count + " data", due, Links.packet(row[0], 0, n, data));
            }
        }
    }

    private static void lastByteOfData() {
        EXPECT.under("4, the last one is not the check of the n before; otherwise 0");
        for (int bit = 0; bit < 256; bit = bit == 0 ? 1 : bit * 2) {
            int[] data = Links.checked(10, 20, 30, 40);
            data[4] ^= bit;
            for (int instruction : new int[] {WRITE, WRITE_ONE, VERIFIED, CHANGE}) {
                status(instruction + ", check differs by " + bit, bit == 0 ? 0 : 4,
                        Links.packet(instruction, 0, 4, data));
            }
        }
    }

    private static void readsIgnoreData() {
        EXPECT.under("(A READ's data do not count.)");
        for (int count : new int[] {0, 1, 2, 3, 16, 17, 18, 31, 32}) {
            status("a read with " + count + " data", 0, Links.packet(READ, 0, 2, Links.rising(count, 1)));
            EXPECT.bytes("they are not written", after(Links.packet(READ, 0, 2, Links.rising(count, 1))), 0, new int[32]);
            status("one address, " + count + " data", 0, Links.packet(READ_ONE, 31, 16, Links.rising(count, 1)));
        }
    }

    /** Every mixture of faults, so that each status is told before all that stand behind it. */
    private static void theFirstThatHolds() {
        EXPECT.under("THE STATUS is the first of these that holds");
        for (int mixture = 0; mixture < 64; mixture++) {
            boolean unknown = (mixture & 1) != 0;
            boolean key = (mixture & 2) != 0;
            boolean length = (mixture & 4) != 0;
            boolean address = (mixture & 8) != 0;
            int dataFault = mixture / 16;
            int n = length ? 17 : 4;
            int[] data = Links.checked(Links.rising(n, 1));
            if (dataFault == 1) {
                data[n] ^= 1;
            } else if (dataFault > 1) {
                data = Arrays.copyOf(data, dataFault == 2 ? n : n + 2);
            }
            int due = unknown ? 2 : key ? 3 : length ? 11 : address ? 10 : new int[] {0, 4, 5, 6}[dataFault];
            for (int instruction : new int[] {WRITE, VERIFIED, CHANGE}) {
                int[] head = {254, 1, unknown ? instruction + 1 : instruction, key ? 31 : 32, 0, 0, address ? 31 : 0, n};
                status(instruction + ", mixture " + mixture, due, Links.packetOf(head, data));
            }
        }
    }

    private static void answer(String what, MemoryLink link, int... due) {
        int count = link.look(0, Links.IN);
        EXPECT.same(what + ", characters of the reply", count, due.length + 10);
        int[] head = new int[8];
        for (int i = 0; i < 8; i++) {
            head[i] = link.take(0);
        }
        EXPECT.same(what + ", number of bytes", head[6], due.length);
        for (int b : due) {
            EXPECT.same(what + ", answer", link.take(0), b);
        }
    }

    private static void readAtTheEdges() {
        EXPECT.under("READ with status 0: the n bytes from the address on, with STEP, or n times the one at the address");
        int[] filled = Links.packet(WRITE - 8, 16, 16, Links.checked(Links.rising(16, 50)));
        MemoryLink link = after(filled);
        int[][] rows = {{READ, 31, 1, 65}, {READ, 30, 2, 64, 65}, {READ, 15, 2, 0, 50}, {READ, 0, 1, 0},
            {READ, 31, 0}, {READ_ONE, 31, 3, 65, 65, 65}, {READ_ONE, 31, 1, 65}, {READ_ONE, 31, 0}};
        for (int[] row : rows) {
            Links.putAll(link, 0, Links.packet(row[0], row[1], row[2]));
            link.run(ENOUGH);
            answer(row[0] + " at " + row[1], link, Arrays.copyOfRange(row, 3, row.length));
            Links.drain(link, 0);
        }
    }

    private static void writeWithStep() {
        EXPECT.under("the k-th (from 0) to address + k with STEP");
        for (int n : new int[] {0, 1, 15, 16}) {
            MemoryLink link = after(Links.packet(WRITE, 32 - n - (n == 0 ? 1 : 0), n, Links.checked(Links.rising(n, 240))));
            for (int address = 0; address < 32; address++) {
                int k = address - (32 - n);
                EXPECT.same("n = " + n + ", byte " + address, link.memory(address), k >= 0 ? (240 + k) % 256 : 0);
            }
        }
    }

    private static void writeWithoutStep() {
        EXPECT.under("all to the address without it, one after the other");
        for (int n : new int[] {0, 1, 2, 16}) {
            MemoryLink link = after(Links.packet(WRITE_ONE, 31, n, Links.checked(Links.rising(n, 90))));
            EXPECT.same("the last of " + n, link.memory(31), n == 0 ? 0 : 89 + n);
            EXPECT.bytes("no other place", link, 0, new int[31]);
        }
    }

    private static void writeOfFewer() {
        EXPECT.under("the first n bytes of data (or all, if there are fewer) are written");
        for (int count = 0; count <= 16; count++) {
            MemoryLink step = after(Links.packet(WRITE, 16, 16, Links.rising(count, 70)));
            EXPECT.same("status", step.status(), 5);
            for (int k = 0; k < 16; k++) {
                EXPECT.same(count + " data, byte " + k, step.memory(16 + k), k < count ? 70 + k : 0);
            }
            MemoryLink one = after(Links.packet(WRITE_ONE, 16, 16, Links.rising(count, 70)));
            EXPECT.same(count + " data to one place", one.memory(16), count == 0 ? 0 : 69 + count);
            EXPECT.same("none to the next", one.memory(17), 0);
        }
    }

    private static void writeOfWrongData() {
        EXPECT.under("WRITE with status 0, or with 4, 5 or 6 if VERIFY is not in it");
        int[][] rows = {{0, 7, 8, Links.check(7, 8)}, {4, 7, 8, Links.check(7, 8) ^ 1}, {5, 7, 8}, {6, 7, 8, Links.check(7, 8), 0}};
        for (int[] row : rows) {
            int[] data = Arrays.copyOfRange(row, 1, row.length);
            MemoryLink plain = after(Links.packet(WRITE, 30, 2, data));
            EXPECT.same("status", plain.status(), row[0]);
            EXPECT.bytes("without VERIFY, status " + row[0], plain, 28, 0, 0, 7, 8);
            MemoryLink verified = after(Links.packet(VERIFIED, 30, 2, data));
            EXPECT.same("status", verified.status(), row[0]);
            EXPECT.bytes("with VERIFY, status " + row[0], verified, 30, row[0] == 0 ? 7 : 0, row[0] == 0 ? 8 : 0);
        }
        for (int count : new int[] {0, 2, 3}) {
            MemoryLink none = after(Links.packet(WRITE, 0, 0, Links.rising(count, 7)));
            EXPECT.bytes("n = 0 with " + count + " data", none, 0, new int[32]);
        }
    }

    private static void changeOfEachLength() {
        EXPECT.under("CHANGE with status 0: the m bytes from the address on are the answer; then each byte w ..");
        for (int n = 2; n <= 8; n += 2) {
            int m = n / 2;
            MemoryLink link = after(Links.packet(WRITE - 8, 26, 6, Links.checked(Links.rising(6, 101))));
            int[] data = Links.rising(n, 200);
            Arrays.fill(data, m, n, 255);
            Links.putAll(link, 0, Links.packet(CHANGE, 32 - m, n, Links.checked(data)));
            link.run(ENOUGH);
            answer("n = " + n, link, Links.rising(m, 107 - m));
            EXPECT.bytes("changed, n = " + n, link, 32 - m, Links.rising(m, 200));
            EXPECT.same("the one before is not", link.memory(31 - m), 106 - m);
        }
    }

    private static void changeOfEachBit() {
        EXPECT.under("becomes (v and x) or (w and not x)");
        for (int bit = 1; bit < 256; bit *= 2) {
            int[][] rows = {{0, bit, bit, bit}, {0, bit, 255 - bit, 0}, {255, 0, bit, 255 - bit},
                {255, 0, 0, 255}, {255, 255 - bit, 255, 255 - bit}, {0, 255, 0, 0}};
            for (int[] row : rows) {
                MemoryLink link = after(Links.packet(WRITE - 8, 5, 1, Links.checked(row[0])));
                Links.putAll(link, 0, Links.packet(CHANGE, 5, 2, Links.checked(row[1], row[2])));
                link.run(ENOUGH);
                EXPECT.same("w " + row[0] + ", v " + row[1] + ", x " + row[2], link.memory(5), row[3]);
            }
        }
    }

    private static void changeOnlyWithStatusZero() {
        EXPECT.under("CHANGE with status 0");
        int[] good = Links.checked(9, 255);
        int[][] heads = {
            {254, 1, CHANGE, 31, 0, 0, 4, 2}, {254, 1, CHANGE, 32, 0, 0, 32, 2}, {254, 1, CHANGE, 32, 0, 0, 4, 1},
            {254, 1, CHANGE, 32, 0, 0, 4, 4}, {254, 1, CHANGE - 4, 32, 0, 0, 4, 2}, {254, 1, CHANGE - 8, 32, 0, 0, 4, 2},
        };
        for (int[] head : heads) {
            EXPECT.bytes("refused", after(Links.packetOf(head, good)), 0, new int[32]);
        }
        int[] head = {254, 1, CHANGE, 32, 0, 0, 4, 2};
        EXPECT.bytes("check wrong", after(Links.packetOf(head, 9, 255, good[2] ^ 1)), 0, new int[32]);
        EXPECT.bytes("too few", after(Links.packetOf(head, 9, 255)), 0, new int[32]);
        EXPECT.bytes("too many", after(Links.packetOf(head, 9, 255, good[2], 0)), 0, new int[32]);
        EXPECT.bytes("as it should be", after(Links.packetOf(head, good)), 3, 0, 9, 0);
    }
}
