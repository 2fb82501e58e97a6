import java.util.Random;

/**
 * Runs of any calls with any arguments: nothing is thrown, refusals change nothing, the document's
 * bounds hold, and no more credit is lent than is owed.
 */
final class AnyCallTest {
    private static final Expect EXPECT = new Expect();
    private static final int[] ODD = {Integer.MIN_VALUE, Integer.MAX_VALUE, -4, -3, -2, -1, 2, 10, 25, 32, 64, 201, 256, 258, 65536};
    // With the looks between and after them, these stay under the document's 512 calls.
    private static final int CALLS = 300;
    private static final int CALLS_PER_LOOK = 30;

    public static void main(String[] args) {
        for (int seed = 0; seed < 600; seed++) {
            boolean[] refused = new boolean[CALLS];
            String all = runOf(seed, refused, false);
            String withoutRefused = runOf(seed, refused, true);
            EXPECT.yes("refusals change nothing, seed " + seed, all.equals(withoutRefused));
        }
        EXPECT.finish();
    }

    /** Makes a seed's calls and notes which are refused, or leaves those out; answers how it all ended. */
    private static String runOf(int seed, boolean[] refused, boolean leaveOut) {
        MemoryLink link = seed % 4 == 0 ? new MemoryLink(0) : Links.up(1);
        for (int i = 0; i < CALLS; i++) {
            Random random = new Random(seed * 1000L + i);
            if (!leaveOut) {
                refused[i] = isRefused(link, random);
            } else if (!refused[i]) {
                isRefused(link, random);
            }
            if (i % CALLS_PER_LOOK == 0) {
                bounds(link, seed);
            }
        }
        return picture(link);
    }

    private static int number(Random random, int greatest) {
        return random.nextInt(20) == 0 ? ODD[random.nextInt(ODD.length)] : random.nextInt(greatest + 1);
    }

    private static int instruction(Random random) {
        int[] known = {72, 76, 92, 108, 104, 124};
        return random.nextBoolean() ? known[random.nextInt(known.length)] : number(random, 255);
    }

    /** Makes one call and tells whether it was refused. */
    private static boolean isRefused(MemoryLink link, Random random) {
        switch (random.nextInt(10)) {
            case 0:
                return !link.control(number(random, 1), random.nextInt(8) != 0, random.nextInt(3) != 0);
            case 1:
            case 2:
            case 3:
                return link.run(number(random, random.nextBoolean() ? 3 : 40)) == Links.BAD;
            case 4:
                return link.put(number(random, 1), number(random, 257)) < 0;
            case 5:
                return link.put(number(random, 1), Links.END) < 0;
            case 6:
                return link.command(instruction(random), random.nextInt(9) == 0 ? number(random, 255) : 32,
                        number(random, 65535), number(random, 40), number(random, 20), number(random, 255),
                        random.nextBoolean() ? 0 : number(random, 31)) < 0;
            case 7:
                return random.nextInt(4) == 0 && !link.spoil(number(random, 1));
            case 8:
                return !link.sendTime(number(random, 1), number(random, 63));
            default:
                return link.take(number(random, 1)) < 0;
        }
    }

    private static String picture(MemoryLink link) {
        StringBuilder text = new StringBuilder();
        for (int what = 0; what < 10; what++) {
            text.append(link.look(0, what)).append(' ').append(link.look(1, what)).append(' ');
        }
        for (int address = 0; address < 32; address++) {
            text.append(link.memory(address)).append(' ');
        }
        return text.append(link.commands()).append(' ').append(link.status()).toString();
    }

    private static void within(String what, int got, int least, int most) {
        EXPECT.yes(what + ": " + got + " is in " + least + " .. " + most, got >= least && got <= most);
    }

    private static void bounds(MemoryLink link, int seed) {
        for (int end = 0; end < 2; end++) {
            String what = "seed " + seed + ", end " + end;
            within(what + ", state", link.look(end, Links.STATE), Links.RESET, Links.RUN);
            within(what + ", LOAN", link.look(end, Links.LOAN), 0, 24);
            within(what + ", OWED", link.look(end, Links.OWED), 0, 24);
            within(what + ", OUT", link.look(end, Links.OUT), 0, 64);
            within(what + ", IN", link.look(end, Links.IN), 0, 25);
            if (link.look(0, Links.STATE) == Links.RUN && link.look(1, Links.STATE) == Links.RUN) {
                within(what + ", LOAN is owed", link.look(end, Links.LOAN), 0, link.look(1 - end, Links.OWED));
            }
        }
    }
}
