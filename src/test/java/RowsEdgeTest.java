/** The edges that the section "Terms" names for characters, the rows OUT and IN, and open packets. */
final class RowsEdgeTest {
    private static final Expect EXPECT = new Expect();

    public static void main(String[] args) {
        for (int end = 0; end < 2; end++) {
            outEmptyAndFull(end);
            inEmptyAndFull(end);
            rowsGoRound(end);
            leastAndGreatestCharacters(end);
            openAfterData(end);
            otherCharactersLeaveItOpen(end);
            openOnlySinceRunBegan(end);
        }
        leastAndGreatestTimes();
        EXPECT.finish();
    }

    private static void outEmptyAndFull(int end) {
        EXPECT.under("Every end has a row OUT of at most 64 packet characters that wait to be sent");
        MemoryLink link = Links.up(0);
        EXPECT.same("OUT is empty", link.look(end, Links.OUT), 0);
        link.run(1);
        EXPECT.same("nothing to send", link.look(end, Links.SENT), Links.IDLE);
        Links.putTimes(link, end, 62, 7);
        EXPECT.same("one place is left", link.put(end, 8), 63);
        EXPECT.same("the last place", link.put(end, 9), 64);
        EXPECT.same("one too many", link.put(end, 10), Links.FULL);
        EXPECT.same("none came, none went", link.look(end, Links.OUT), 64);
        EXPECT.same("the other end's OUT is its own", link.look(1 - end, Links.OUT), 0);
        link.run(1);
        EXPECT.same("room for the one that was sent", link.put(end, 10), 64);
        EXPECT.same("and for no other", link.put(end, 11), Links.FULL);
    }

    private static void inEmptyAndFull(int end) {
        EXPECT.under("and a row IN of at most 25 that came");
        MemoryLink link = Links.up(0);
        EXPECT.same("IN is empty", link.take(end), Links.NONE);
        EXPECT.same("and stays so", link.look(end, Links.IN), 0);
        Links.putTimes(link, 1 - end, 64, 7);
        link.run(200);
        EXPECT.same("credit ends at 24", link.look(end, Links.IN), 24);
        Links.fell(link, end);
        EXPECT.same("the fall's BREAK is the last that fits", link.look(end, Links.IN), 25);
        link.run(200);
        EXPECT.same("no other comes", link.look(end, Links.IN), 25);
        Links.takeTimes(link, end, 24);
        EXPECT.same("BREAK is the last", link.take(end), Links.BREAK);
        EXPECT.same("IN is empty again", link.take(end), Links.NONE);
    }

    /** More than twice as many characters as either row has places, both rows being nearly full. */
    private static void rowsGoRound(int end) {
        EXPECT.under("first in, first out");
        MemoryLink link = Links.up(0);
        for (int i = 0; i < 64; i++) {
            link.put(end, i);
        }
        link.run(40);
        for (int i = 0; i < 140; i++) {
            EXPECT.same("character " + i, link.take(1 - end), i);
            link.put(end, 64 + i);
            link.run(1);
        }
        EXPECT.yes("both rows are in use",
                link.look(end, Links.OUT) > 30 && link.look(1 - end, Links.IN) > 10);
    }

    private static void leastAndGreatestCharacters(int end) {
        EXPECT.under("CHARACTERS are 0 .. 255 DATA, 256 END, 257 BREAK");
        MemoryLink link = Links.up(0);
        Links.putAll(link, end, 0, 255, 256, 0, 255, 257, 257, 256);
        link.run(9);
        EXPECT.taken("they come as they were put", link, 1 - end, 0, 255, 256, 0, 255, 257, 257, 256);
    }

    private static void openAfterData(int end) {
        EXPECT.under("It is OPEN that way when the latest one that it sent, or that came into IN, .. is data");
        for (int c : new int[] {0, 255, 256, 257}) {
            MemoryLink link = Links.up(0);
            Links.putAll(link, end, c, 9, 9);
            link.run(1);
            Links.fell(link, end);
            EXPECT.same("OUT after " + c + " was sent", link.look(end, Links.OUT), c < 256 ? 0 : 2);
            link.run(2);
            EXPECT.same("the other end fell too", link.look(1 - end, Links.FALLS), 1);
            EXPECT.same("IN after " + c + " came", link.look(1 - end, Links.IN), c < 256 ? 2 : 1);
            EXPECT.same("what came", link.take(1 - end), c);
            EXPECT.same("what closed it", link.take(1 - end), c < 256 ? Links.BREAK : Links.NONE);
        }
    }

    private static void otherCharactersLeaveItOpen(int end) {
        EXPECT.under("It is OPEN that way when the latest one [of the packet characters] .. is data");
        MemoryLink link = Links.up(0);
        link.put(end, 5);
        link.run(1);
        link.sendTime(end, 1);
        link.run(3);
        EXPECT.same("TIME came since", link.look(1 - end, Links.CLOCK_TIME), 1);
        EXPECT.same("IDLE was sent since", link.look(end, Links.SENT), Links.IDLE);
        Links.putAll(link, end, 6, Links.END, 7);
        Links.fell(link, end);
        EXPECT.same("the rest is thrown away", link.look(end, Links.OUT), 1);
        link.run(2);
        EXPECT.taken("BREAK comes", link, 1 - end, 5, Links.BREAK);
    }

    private static void openOnlySinceRunBegan(int end) {
        EXPECT.under("since it last began to RUN");
        MemoryLink link = Links.up(0);
        link.put(end, 5);
        link.run(2);
        Links.bothFell(link);
        link.put(end, Links.END);
        link.run(21);
        EXPECT.same("both run again", link.run(0), Links.states(Links.RUN, Links.RUN));
        Links.putAll(link, end, 6, Links.END);
        Links.bothFellAtOnce(link);
        EXPECT.same("none was sent since: OUT stays", link.look(end, Links.OUT), 2);
        EXPECT.taken("none came since: no second BREAK", link, 1 - end, 5, Links.BREAK);
    }

    private static void leastAndGreatestTimes() {
        EXPECT.under("260 + t (t 0 .. 63) TIME t");
        for (int t : new int[] {0, 63}) {
            MemoryLink link = Links.up(0);
            link.sendTime(0, t);
            link.run(1);
            EXPECT.same("TIME " + t, link.look(0, Links.SENT), 260 + t);
            link.run(1);
            EXPECT.same("it came", link.look(1, Links.CLOCK_TIME), t);
        }
    }
}
