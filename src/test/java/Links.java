import java.util.Arrays;

/** What the tests share: names for the document's numbers, and links that are already up. */
final class Links {
    static final int BAD = MemoryLink.BAD;
    static final int FULL = MemoryLink.FULL;
    static final int NONE = MemoryLink.NONE;

    static final int END = 256;
    static final int BREAK = 257;
    static final int CREDIT = 258;
    static final int IDLE = 259;
    static final int TIME = 260;

    static final int RESET = 0;
    static final int WAIT = 1;
    static final int READY = 2;
    static final int STARTED = 3;
    static final int CONNECTING = 4;
    static final int RUN = 5;

    static final int STATE = 0;
    static final int CLOCK = 1;
    static final int LOAN = 2;
    static final int OWED = 3;
    static final int OUT = 4;
    static final int IN = 5;
    static final int FALLS = 6;
    static final int CLOCK_TIME = 7;
    static final int GOOD_TIMES = 8;
    static final int SENT = 9;

    /** Ends that are none, the nearest and the farthest. */
    static final int[] NO_ENDS = {-1, 2, Integer.MIN_VALUE, Integer.MAX_VALUE};

    private Links() {
    }

    static int states(int near, int far) {
        return near + 8 * far;
    }

    /** A link whose ends are both enabled, and nothing else. */
    static MemoryLink enabled(int target) {
        MemoryLink link = new MemoryLink(target);
        link.control(0, true, false);
        link.control(1, true, false);
        return link;
    }

    /** Both ends in RUN, with all the credit lent that can be, IN and OUT empty. */
    static MemoryLink up(int target) {
        MemoryLink link = enabled(target);
        link.run(30);
        return link;
    }

    /** The end is neither enabled nor on auto for one tick, and so falls out of RUN. */
    static void fell(MemoryLink link, int end) {
        link.control(end, false, false);
        link.run(1);
        link.control(end, true, false);
    }

    /** Both ends fall in the same tick, because what each of them sends is spoiled. */
    static void bothFell(MemoryLink link) {
        link.spoil(0);
        link.spoil(1);
        link.run(2);
    }

    /** Both ends fall in the next tick, before they send anything in it. */
    static void bothFellAtOnce(MemoryLink link) {
        link.control(0, false, false);
        link.control(1, false, false);
        link.run(1);
        link.control(0, true, false);
        link.control(1, true, false);
    }

    static void putTimes(MemoryLink link, int end, int times, int c) {
        for (int i = 0; i < times; i++) {
            link.put(end, c);
        }
    }

    static void putAll(MemoryLink link, int end, int... characters) {
        for (int c : characters) {
            link.put(end, c);
        }
    }

    /** The check of bytes, in the words of the document. */
    static int check(int... bytes) {
        int c = 0;
        for (int b : bytes) {
            c = c ^ b;
            for (int i = 0; i < 8; i++) {
                boolean odd = c % 2 != 0;
                c = c / 2;
                if (odd) {
                    c = c ^ 0b11100000;
                }
            }
        }
        return c;
    }

    /** A command packet by hand, so that its parts need not fit together. */
    static int[] packet(int instruction, int address, int length, int... data) {
        return packetOf(new int[] {254, 1, instruction, 32, 1, 2, address, length}, data);
    }

    /** A packet of eight bytes, their check, and data. */
    static int[] packetOf(int[] head, int... data) {
        int[] whole = new int[10 + data.length];
        System.arraycopy(head, 0, whole, 0, 8);
        whole[8] = check(head);
        System.arraycopy(data, 0, whole, 9, data.length);
        whole[9 + data.length] = END;
        return whole;
    }

    /** Bytes and, behind them, their check. */
    static int[] checked(int... bytes) {
        int[] whole = Arrays.copyOf(bytes, bytes.length + 1);
        whole[bytes.length] = check(bytes);
        return whole;
    }

    /** So many bytes, from a first one on, each one more than the one before (modulo 256). */
    static int[] rising(int count, int first) {
        int[] bytes = new int[count];
        for (int k = 0; k < count; k++) {
            bytes[k] = (first + k) % 256;
        }
        return bytes;
    }

    /** Lets a link work and empties IN of end 0, so that replies never stand in the way. */
    static void settle(MemoryLink link) {
        for (int i = 0; i < 4; i++) {
            link.run(40);
            drain(link, 0);
        }
    }

    static void drain(MemoryLink link, int end) {
        takeTimes(link, end, 25);
    }

    static void takeTimes(MemoryLink link, int end, int times) {
        for (int i = 0; i < times; i++) {
            link.take(end);
        }
    }
}
