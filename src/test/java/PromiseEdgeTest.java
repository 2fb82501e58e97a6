/** The edges of every number that the promises 1 to 12 name: the last that is good, the first that is not. */
final class PromiseEdgeTest {
    private static final Expect EXPECT = new Expect();
    private static final int LEAST = Integer.MIN_VALUE;
    private static final int GREATEST = Integer.MAX_VALUE;

    public static void main(String[] args) {
        newObject();
        control();
        run();
        putNumbers();
        putFull();
        commandNumbers();
        commandLengths();
        commandFill();
        commandSpoil();
        commandFull();
        commandWhileARestIsThrownAway();
        take();
        sendTime();
        spoil();
        look();
        memory();
        commands();
        status();
        EXPECT.finish();
    }

    private static void newObject() {
        EXPECT.under("The target is on, unless target is 0");
        for (int target : new int[] {LEAST, -1, 0, 1, GREATEST}) {
            MemoryLink link = new MemoryLink(target);
            EXPECT.same("target " + target, link.take(1), target == 0 ? Links.NONE : Links.BAD);
        }
    }

    private static void control() {
        EXPECT.under("from now on: true; false when end is not 0 or 1");
        MemoryLink link = new MemoryLink(0);
        for (int end : new int[] {LEAST, -1, 0, 1, 2, GREATEST}) {
            boolean due = end == 0 || end == 1;
            EXPECT.same("end " + end, link.control(end, false, false) ? 1 : 0, due ? 1 : 0);
        }
    }

    private static void run() {
        EXPECT.under("BAD when n is not 0 .. 200");
        MemoryLink link = new MemoryLink(0);
        EXPECT.same("-1", link.run(-1), Links.BAD);
        EXPECT.same("the least int", link.run(LEAST), Links.BAD);
        EXPECT.same("201", link.run(201), Links.BAD);
        EXPECT.same("the greatest int", link.run(GREATEST), Links.BAD);
        EXPECT.same("0", link.run(0), 0);
        EXPECT.same("no tick went by", link.look(0, Links.CLOCK), 0);
        EXPECT.same("1", link.run(1), 0);
        EXPECT.same("one tick went by", link.look(0, Links.CLOCK), 1);
        EXPECT.same("199", link.run(199), Links.states(Links.READY, Links.READY));
        EXPECT.same("200", link.run(200), Links.states(Links.READY, Links.READY));
        EXPECT.same("400 ticks went by", link.look(0, Links.CLOCK), 400 - 18);
        EXPECT.under("Answers the state of end 0 then, plus 8 times that of end 1");
        MemoryLink greatest = Links.enabled(0);
        EXPECT.same("the greatest answer", greatest.run(21), 45);
    }

    private static void putNumbers() {
        EXPECT.under("BAD when end is not 0 or 1 or c not 0 .. 257");
        MemoryLink link = new MemoryLink(0);
        for (int end : Links.NO_ENDS) {
            EXPECT.same("end " + end, link.put(end, 0), Links.BAD);
        }
        for (int end = 0; end < 2; end++) {
            for (int c : new int[] {LEAST, -3, -2, -1, 258, 259, 260, 323, 324, GREATEST}) {
                EXPECT.same("c = " + c, link.put(end, c), Links.BAD);
            }
            int count = 0;
            for (int c : new int[] {0, 1, 255, 256, 257}) {
                count++;
                EXPECT.same("c = " + c, link.put(end, c), count);
            }
        }
    }

    private static void putFull() {
        EXPECT.under("FULL when OUT has 64");
        for (int c : new int[] {0, 255, Links.END, Links.BREAK}) {
            MemoryLink link = new MemoryLink(0);
            Links.putTimes(link, 0, 63, 1);
            EXPECT.same("OUT has 63", link.put(0, c), 64);
            EXPECT.same("OUT has 64", link.put(0, c), Links.FULL);
            EXPECT.same("OUT of the other end has not", link.put(1, c), 1);
            EXPECT.same("BAD is named before FULL", link.put(0, 258), Links.BAD);
            EXPECT.same("also for an end", link.put(2, c), Links.BAD);
        }
    }

    private static int command(MemoryLink link, int... a) {
        return link.command(a[0], a[1], a[2], a[3], a[4], a[5], a[6]);
    }

    private static void commandNumbers() {
        EXPECT.under("BAD when instruction, key, address or fill is not 0 .. 255, number not 0 .. 65535, "
                + "length not 0 .. 24, or spoil not 0 .. 31");
        int[] greatest = {255, 255, 65535, 255, 24, 255, 31};
        for (int i = 0; i < greatest.length; i++) {
            int[][] bases = {new int[7], greatest.clone()};
            for (int[] base : bases) {
                MemoryLink link = new MemoryLink(1);
                for (int wrong : new int[] {LEAST, -1, greatest[i] + 1, GREATEST}) {
                    base[i] = wrong;
                    EXPECT.same("argument " + i + " = " + wrong, command(link, base), Links.BAD);
                }
                EXPECT.same("nothing came", link.look(0, Links.OUT), 0);
                for (int good : new int[] {0, greatest[i]}) {
                    base[i] = good;
                    EXPECT.yes("argument " + i + " = " + good, command(new MemoryLink(1), base) > 0);
                }
            }
        }
    }

    private static void commandLengths() {
        EXPECT.under("nine bytes and, if the instruction has 32 or 16 in it, data: length bytes .. and their check; then END");
        for (int length : new int[] {0, 1, 16, 17, 23, 24}) {
            EXPECT.same("without data", new MemoryLink(1).command(207, 32, 0, 0, length, 0, 0), 10);
            EXPECT.same("with 16", new MemoryLink(1).command(16, 32, 0, 0, length, 0, 0), 11 + length);
            EXPECT.same("with 32", new MemoryLink(1).command(32, 32, 0, 0, length, 0, 0), 11 + length);
            EXPECT.same("with both", new MemoryLink(1).command(255, 32, 0, 0, length, 0, 0), 11 + length);
        }
    }

    private static void comes(String what, MemoryLink link, int... due) {
        for (int i = 0; i < due.length; i++) {
            link.run(3);
            EXPECT.same(what + ", character " + i, link.take(1), due[i]);
        }
        link.run(3);
        EXPECT.same(what + ", nothing more", link.take(1), Links.NONE);
    }

    private static void commandFill() {
        EXPECT.under("length bytes fill, fill + 1, .. (modulo 256)");
        for (int fill : new int[] {0, 1, 231, 232, 233, 254, 255}) {
            MemoryLink link = Links.up(0);
            link.command(32, 0, 0, 0, 24, fill, 0);
            int[] packet = Links.packetOf(new int[] {254, 1, 32, 0, 0, 0, 0, 24}, Links.checked(Links.rising(24, fill)));
            comes("fill " + fill, link, packet);
        }
    }

    private static void commandSpoil() {
        EXPECT.under("with 4 the last byte of data (the check) is left out, with 8 one more byte 0 comes behind it");
        int[] head = {254, 1, 32, 0, 0, 0, 0, 0};
        int[][] due = {{0}, {1}, {}, {}, {0, 0}, {1, 0}, {0}, {0}};
        for (int spoil = 0; spoil < 32; spoil++) {
            MemoryLink link = Links.up(0);
            link.command(32, 0, 0, 0, 0, 0, spoil);
            int[] packet = Links.packetOf(head, due[spoil / 2 % 8]);
            packet[8] ^= spoil % 2;
            packet[packet.length - 1] = spoil < 16 ? Links.END : Links.BREAK;
            comes("no data, spoil " + spoil, link, packet);
        }
    }

    /** Every length that a command can have, with just enough places and with one too few. */
    private static void commandFull() {
        EXPECT.under("FULL when OUT has not as many free places");
        for (int length = 0; length <= 24; length++) {
            for (int spoil : new int[] {0, 4, 8, 12, 31}) {
                int count = new MemoryLink(1).command(32, 0, 0, 0, length, 0, spoil);
                EXPECT.same("characters", count, 11 + length - (spoil & 4) / 4 + (spoil & 8) / 8);
                MemoryLink few = new MemoryLink(1);
                Links.putTimes(few, 0, 64 - count + 1, 7);
                EXPECT.same("one too few", few.command(32, 0, 0, 0, length, 0, spoil), Links.FULL);
                EXPECT.same("none of it came", few.look(0, Links.OUT), 64 - count + 1);
                EXPECT.same("BAD is named before FULL", few.command(32, 0, 0, 0, length, 0, 32), Links.BAD);
                MemoryLink enough = new MemoryLink(1);
                Links.putTimes(enough, 0, 64 - count, 7);
                EXPECT.same("just enough", enough.command(32, 0, 0, 0, length, 0, spoil), 64);
            }
        }
        MemoryLink full = new MemoryLink(1);
        Links.putTimes(full, 0, 64, 7);
        EXPECT.same("no place at all", full.command(76, 32, 0, 0, 0, 0, 0), Links.FULL);
        MemoryLink other = new MemoryLink(1);
        Links.putTimes(other, 1, 64, 7);
        EXPECT.same("OUT of end 1 does not count", other.command(76, 32, 0, 0, 0, 0, 0), 10);
    }

    private static void commandWhileARestIsThrownAway() {
        EXPECT.under("FULL when .. the rest of a packet is thrown away there");
        MemoryLink link = Links.up(1);
        link.put(0, 1);
        link.run(1);
        Links.fell(link, 0);
        EXPECT.same("thrown away", link.command(76, 32, 0, 0, 0, 0, 0), Links.FULL);
        EXPECT.same("BAD is named before FULL", link.command(76, 32, 0, 0, 25, 0, 0), Links.BAD);
        EXPECT.same("its END has not ended it", link.command(76, 32, 0, 0, 0, 0, 0), Links.FULL);
        EXPECT.same("data are thrown away", link.put(0, 2), 0);
        EXPECT.same("and still no command", link.command(76, 32, 0, 0, 0, 0, 0), Links.FULL);
        EXPECT.same("a BREAK ends it", link.put(0, Links.BREAK), 0);
        EXPECT.same("a command", link.command(76, 32, 0, 0, 0, 0, 0), 10);
        MemoryLink other = Links.up(1);
        other.put(1, 1);
        other.run(1);
        Links.fell(other, 1);
        EXPECT.same("what is thrown away at end 1 does not count", other.command(76, 32, 0, 0, 0, 0, 0), 10);
    }

    private static void take() {
        EXPECT.under("BAD when end is not 0 or 1, or it is 1 and the target is on; NONE");
        for (int target = 0; target < 2; target++) {
            MemoryLink link = Links.up(target);
            for (int end : Links.NO_ENDS) {
                EXPECT.same("end " + end, link.take(end), Links.BAD);
            }
            EXPECT.same("end 0, none", link.take(0), Links.NONE);
            EXPECT.same("end 1, none", link.take(1), target == 0 ? Links.NONE : Links.BAD);
            link.put(0, 3);
            link.put(1, 4);
            link.run(2);
            EXPECT.same("end 0, one", link.take(0), 4);
            EXPECT.same("end 0, none again", link.take(0), Links.NONE);
            EXPECT.same("end 1, one", link.take(1), target == 0 ? 3 : Links.BAD);
            EXPECT.same("end 1, none again", link.take(1), target == 0 ? Links.NONE : Links.BAD);
        }
    }

    private static void sendTime() {
        EXPECT.under("true; false when end is not 0 or 1 or t not 0 .. 63");
        MemoryLink link = Links.up(0);
        for (int end : Links.NO_ENDS) {
            EXPECT.no("end " + end, link.sendTime(end, 0));
        }
        for (int end = 0; end < 2; end++) {
            for (int t : new int[] {LEAST, -3, -1, 64, GREATEST}) {
                EXPECT.no("t = " + t, link.sendTime(end, t));
            }
        }
        link.run(1);
        EXPECT.same("none is sent by end 0", link.look(0, Links.SENT), Links.IDLE);
        EXPECT.same("none is sent by end 1", link.look(1, Links.SENT), Links.IDLE);
        for (int t : new int[] {0, 1, 62, 63}) {
            EXPECT.yes("t = " + t, link.sendTime(1, t));
            link.run(1);
            EXPECT.same("sent", link.look(1, Links.SENT), Links.TIME + t);
        }
        EXPECT.under("(in place of one asked for before and not sent yet)");
        link.run(1);
        link.sendTime(0, 63);
        link.sendTime(0, 0);
        link.run(1);
        EXPECT.same("the second", link.look(0, Links.SENT), Links.TIME);
        link.run(1);
        EXPECT.same("not the first", link.look(0, Links.SENT), Links.IDLE);
        link.sendTime(0, 5);
        link.sendTime(0, 64);
        link.sendTime(0, -1);
        link.run(1);
        EXPECT.same("a refused one takes no place", link.look(0, Links.SENT), Links.TIME + 5);
    }

    private static void spoil() {
        EXPECT.under("The next character that an end sends (from now on) is spoiled: true; false when end is not 0 or 1");
        MemoryLink link = Links.up(0);
        for (int end : Links.NO_ENDS) {
            EXPECT.no("end " + end, link.spoil(end));
        }
        link.run(3);
        EXPECT.same("nobody fell", link.look(0, Links.FALLS) + link.look(1, Links.FALLS), 0);
        for (int end = 0; end < 2; end++) {
            EXPECT.yes("end " + end, link.spoil(end));
            link.run(1);
            EXPECT.same("sent", link.look(1 - end, Links.FALLS), end);
            link.run(1);
            EXPECT.same("the other fell", link.look(1 - end, Links.FALLS), 1 + end);
            link.run(40);
            EXPECT.same("once for one spoil", link.look(1 - end, Links.FALLS), 1 + end);
            EXPECT.same("both run again", link.run(0), Links.states(Links.RUN, Links.RUN));
        }
    }

    private static void look() {
        EXPECT.under("BAD when end is not 0 or 1 or what not 0 .. 9");
        MemoryLink link = Links.up(0);
        for (int what : new int[] {LEAST, -1, 0, 9, 10, GREATEST}) {
            for (int end : Links.NO_ENDS) {
                EXPECT.same("end " + end + ", " + what, link.look(end, what), Links.BAD);
            }
            for (int end = 0; end < 2; end++) {
                int due = what == 0 ? Links.RUN : what == 9 ? Links.IDLE : Links.BAD;
                EXPECT.same("what = " + what, link.look(end, what), due);
            }
        }
        EXPECT.under("9 the character that it sent in the latest tick (NONE if it sent none)");
        MemoryLink fresh = Links.enabled(0);
        EXPECT.same("no tick yet", fresh.look(0, Links.SENT), Links.NONE);
        fresh.run(18);
        EXPECT.same("none sent", fresh.look(0, Links.SENT), Links.NONE);
        fresh.run(1);
        EXPECT.same("the first", fresh.look(0, Links.SENT), Links.IDLE);
        fresh.run(0);
        EXPECT.same("no tick since", fresh.look(0, Links.SENT), Links.IDLE);
        fresh.run(5);
        Links.fell(fresh, 0);
        EXPECT.same("none in the latest", fresh.look(0, Links.SENT), Links.NONE);
    }

    private static void memory() {
        EXPECT.under("A byte of the memory; BAD when address is not 0 .. 31");
        for (int target = 0; target < 2; target++) {
            MemoryLink link = new MemoryLink(target);
            for (int address : new int[] {LEAST, -1, 32, 33, 255, GREATEST}) {
                EXPECT.same("address " + address, link.memory(address), Links.BAD);
            }
            EXPECT.same("the first", link.memory(0), 0);
            EXPECT.same("the last", link.memory(31), 0);
        }
        MemoryLink link = Links.up(1);
        link.command(96, 32, 0, 31, 1, 255, 0);
        link.command(96, 32, 0, 0, 1, 128, 0);
        link.run(60);
        EXPECT.same("the greatest byte", link.memory(31), 255);
        EXPECT.same("a byte is never less than 0", link.memory(0), 128);
    }

    private static void commands() {
        EXPECT.under("How many commands the target has carried out or refused (forgotten packets not counted)");
        MemoryLink link = Links.up(1);
        EXPECT.same("none", link.commands(), 0);
        link.put(0, Links.END);
        link.put(0, Links.BREAK);
        link.command(96, 32, 0, 0, 1, 0, 1);
        link.command(96, 32, 0, 0, 1, 0, 16);
        link.run(60);
        EXPECT.same("forgotten ones", link.commands(), 0);
        link.command(96, 32, 0, 0, 1, 0, 0);
        link.run(60);
        EXPECT.same("one carried out", link.commands(), 1);
        link.command(96, 33, 0, 0, 1, 0, 0);
        link.run(60);
        EXPECT.same("one refused", link.commands(), 2);
        link.command(0, 0, 0, 0, 0, 0, 0);
        link.run(60);
        EXPECT.same("one unknown", link.commands(), 3);
        MemoryLink many = Links.up(1);
        for (int i = 1; i <= 150; i++) {
            many.command(96, 32, 0, 0, 0, 0, 0);
            many.run(20);
        }
        EXPECT.same("150 of them", many.commands(), 150);
        MemoryLink off = Links.up(0);
        off.command(96, 32, 0, 0, 1, 0, 0);
        off.run(60);
        EXPECT.same("with the target off", off.commands(), 0);
    }

    private static void status() {
        EXPECT.under("The status of the latest command; NONE when there was none");
        MemoryLink link = Links.up(1);
        EXPECT.same("none", link.status(), Links.NONE);
        link.command(96, 32, 0, 0, 1, 0, 1);
        link.run(60);
        EXPECT.same("a forgotten one is none", link.status(), Links.NONE);
        int[][] rows = {{96, 32, 0, 1, 0, 0}, {0, 32, 0, 1, 0, 2}, {96, 0, 0, 1, 0, 3}, {96, 32, 0, 1, 2, 4},
            {96, 32, 0, 1, 4, 5}, {96, 32, 0, 1, 8, 6}, {96, 32, 32, 1, 0, 10}, {96, 32, 0, 17, 0, 11}, {96, 32, 31, 16, 0, 0}};
        for (int[] row : rows) {
            link.command(row[0], row[1], 0, row[2], row[3], 7, row[4]);
            link.run(60);
            EXPECT.same("the latest", link.status(), row[5]);
            link.command(row[0], row[1], 0, row[2], row[3], 7, 16);
            link.run(60);
            EXPECT.same("a forgotten one changes nothing", link.status(), row[5]);
        }
    }
}
