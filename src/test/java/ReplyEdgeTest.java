import java.util.Arrays;

/** The edges that the section "Terms" names for the reply. */
final class ReplyEdgeTest {
    private static final Expect EXPECT = new Expect();
    private static final int[] NO_ANSWER = {};

    public static void main(String[] args) {
        everyInstruction();
        leastAndGreatestNumbers();
        leastAndGreatestAnswers();
        justRoomAndOneTooFew();
        waitsAsLongAsItMust();
        takesNothingWhenTheReplyGoes();
        inOneGo();
        behindAnUnfinishedPacket();
        afterAFallThatLeavesAPacket();
        thrownAwayLikeWhatIsPut();
        EXPECT.finish();
    }

    /** What stands in a reply: the answer is null where the document names none at all. */
    private static int[] due(int instruction, int status, int high, int low, int[] answer) {
        int[] head = {67, 1, instruction & ~64, status, high, low};
        if (answer == null) {
            return closed(Links.checked(head));
        }
        int[] counted = Arrays.copyOf(head, 7);
        counted[6] = answer.length;
        return closed(joined(Links.checked(counted), Links.checked(answer)));
    }

    private static int[] joined(int[] first, int[] second) {
        int[] whole = Arrays.copyOf(first, first.length + second.length);
        System.arraycopy(second, 0, whole, first.length, second.length);
        return whole;
    }

    private static int[] closed(int[] bytes) {
        return joined(bytes, new int[] {Links.END});
    }

    /** Takes a reply as it comes, so that it may be longer than IN. */
    private static void comes(String what, MemoryLink link, int... due) {
        link.run(60);
        for (int i = 0; i < due.length; i++) {
            EXPECT.same(what + ", character " + i, link.take(0), due[i]);
            link.run(3);
        }
        EXPECT.same(what + ", nothing more", link.take(0), Links.NONE);
    }

    private static int[] answerOf(int instruction, int... bytes) {
        boolean known = (instruction & (64 + 128 + 2 + 1)) == 64;
        if ((instruction & 32) != 0) {
            return null;
        }
        if (known && (instruction & 16) == 0) {
            return bytes;
        }
        return known && (instruction & 4) != 0 ? new int[] {bytes[0]} : NO_ANSWER;
    }

    private static void everyInstruction() {
        EXPECT.under("THE REPLY, if REPLY is in the instruction (or it is unknown and has REPLY)");
        for (int instruction = 0; instruction < 256; instruction++) {
            MemoryLink link = Links.up(1);
            link.command(96, 32, 0, 3, 1, 40, 0);
            link.run(60);
            String what = "instruction " + instruction;
            Links.putAll(link, 0, Links.packet(instruction, 3, 2, Links.checked(9, 255)));
            if ((instruction & 8) == 0) {
                comes(what + " has no reply", link);
                continue;
            }
            int second = (instruction & 4) != 0 ? 0 : 40;
            link.run(60);
            comes(what, link, due(instruction, link.status(), 1, 2, answerOf(instruction, 40, second)));
        }
    }

    private static void leastAndGreatestNumbers() {
        EXPECT.under("67, 1, the instruction without 64, the status, b(4), b(5)");
        for (int number : new int[] {0, 1, 255, 256, 257, 32768, 65280, 65535}) {
            MemoryLink link = Links.up(1);
            link.command(108, 32, number, 0, 0, 0, 0);
            comes("number " + number, link, due(108, 0, number / 256, number % 256, null));
            link.command(76, 0, number, 0, 0, 0, 0);
            comes("number " + number + " of a refused one", link, due(76, 3, number / 256, number % 256, NO_ANSWER));
        }
    }

    private static void leastAndGreatestAnswers() {
        EXPECT.under("the number of bytes of the answer (0 if there is none), the check of the seven so far, "
                + "the answer, and its check");
        for (int n : new int[] {0, 1, 15, 16}) {
            MemoryLink link = Links.up(1);
            link.command(100, 32, 0, 16, 16, 100, 0);
            link.command(76, 32, 7, 16, n, 0, 0);
            comes("a read of " + n, link, due(76, 0, 0, 7, Links.rising(n, 100)));
            link.command(72, 32, 7, 31, n, 0, 0);
            int[] same = new int[n];
            Arrays.fill(same, 115);
            comes("one byte " + n + " times", link, due(72, 0, 0, 7, same));
        }
        MemoryLink refused = Links.up(1);
        refused.command(76, 32, 7, 0, 17, 0, 0);
        comes("a read of 17", refused, due(76, 11, 0, 7, NO_ANSWER));
        refused.command(92, 32, 7, 0, 10, 0, 0);
        comes("a change of 10", refused, due(92, 11, 0, 7, NO_ANSWER));
        refused.command(76, 32, 7, 17, 16, 0, 0);
        comes("a read beyond byte 31", refused, due(76, 10, 0, 7, NO_ANSWER));
    }

    /** IN of end 0 is full, so that OUT of end 1 keeps what it is given. */
    private static MemoryLink withFree(int free) {
        MemoryLink link = Links.up(1);
        Links.putTimes(link, 1, 24, 7);
        link.run(30);
        Links.putTimes(link, 1, 64 - free, 7);
        EXPECT.same("OUT of end 1", link.look(1, Links.OUT), 64 - free);
        return link;
    }

    private static void justRoomAndOneTooFew() {
        EXPECT.under("as long as that has fewer free places than the reply has characters, the target waits with it");
        int[][] rows = {{108, 2, 8}, {44, 2, 8}, {76, 0, 10}, {12, 2, 10}, {92, 2, 11}, {92, 8, 14}, {76, 1, 11}, {76, 16, 26}};
        for (int[] row : rows) {
            for (int free = row[2] - 1; free <= row[2] + 1; free++) {
                MemoryLink link = withFree(free);
                link.command(row[0], 32, 0, 0, row[1], 0, 0);
                link.run(60);
                EXPECT.same("carried out or refused", link.commands(), 1);
                int held = 64 - free + (free < row[2] ? 0 : row[2]);
                EXPECT.same(row[0] + ", n = " + row[1] + ", " + free + " free", link.look(1, Links.OUT), held);
            }
        }
        MemoryLink none = withFree(0);
        none.command(108, 32, 0, 0, 2, 0, 0);
        none.run(60);
        EXPECT.same("no place at all", none.look(1, Links.OUT), 64);
        MemoryLink silent = withFree(0);
        silent.command(100, 32, 0, 0, 2, 0, 0);
        silent.command(100, 32, 0, 0, 2, 0, 0);
        silent.run(60);
        EXPECT.same("without a reply there is nothing to wait for", silent.commands(), 2);
    }

    private static void waitsAsLongAsItMust() {
        EXPECT.under("the target waits with it (in its part of a tick it takes nothing then ..)");
        MemoryLink link = withFree(7);
        link.command(108, 32, 0, 0, 1, 9, 0);
        link.run(30);
        link.command(108, 32, 0, 1, 1, 9, 0);
        link.command(108, 32, 0, 2, 1, 9, 0);
        link.run(200);
        link.run(200);
        EXPECT.same("one is carried out", link.commands(), 1);
        EXPECT.same("the others wait in IN, as far as credit goes", link.look(1, Links.IN), 20);
        EXPECT.same("nothing of the reply has come", link.look(1, Links.OUT), 57);
        Links.takeTimes(link, 0, 8);
        Links.putTimes(link, 1, 7, 7);
        link.run(8);
        EXPECT.same("seven came, seven went: still one place too few", link.look(1, Links.OUT), 57);
        link.run(1);
        EXPECT.same("the eighth went, the reply has come", link.look(1, Links.OUT), 64);
        link.run(11);
        EXPECT.same("the second lacks its END", link.commands(), 1);
        link.run(1);
        EXPECT.same("the second is carried out", link.commands(), 2);
    }

    private static void takesNothingWhenTheReplyGoes() {
        EXPECT.under("(in its part of a tick it takes nothing then, also when the reply goes)");
        MemoryLink link = withFree(7);
        link.command(108, 32, 0, 0, 1, 9, 0);
        link.run(30);
        link.command(108, 32, 0, 1, 1, 9, 0);
        link.run(30);
        Links.takeTimes(link, 0, 8);
        link.run(1);
        EXPECT.same("seven are free", link.look(1, Links.OUT), 57);
        EXPECT.same("nothing is taken", link.look(1, Links.IN), 12);
        link.run(1);
        EXPECT.same("eight were free", link.look(1, Links.OUT), 64);
        EXPECT.same("nothing is taken in that tick", link.look(1, Links.IN), 12);
        link.run(1);
        EXPECT.same("one is taken in the next", link.look(1, Links.IN), 11);
    }

    private static void inOneGo() {
        EXPECT.under("It is put into OUT of end 1 at once, all its characters one after the other");
        MemoryLink link = Links.up(1);
        link.command(76, 32, 0, 0, 16, 0, 0);
        link.run(10);
        EXPECT.same("END is under way", link.look(1, Links.OUT), 0);
        link.run(1);
        EXPECT.same("END is taken, the reply is there", link.look(1, Links.OUT), 26);
        EXPECT.same("nothing of it was sent in that tick", link.look(1, Links.SENT), Links.IDLE);
        link.run(1);
        EXPECT.same("its first character goes in the next", link.look(1, Links.SENT), 67);
    }

    private static void behindAnUnfinishedPacket() {
        EXPECT.under("as put() does it");
        MemoryLink link = Links.up(1);
        Links.putAll(link, 1, 5, 6);
        link.command(108, 32, 3, 0, 0, 0, 0);
        comes("the reply follows what was put", link, joined(new int[] {5, 6}, due(108, 0, 0, 3, null)));
    }

    private static void afterAFallThatLeavesAPacket() {
        EXPECT.under("as long as that has fewer free places than the reply has characters");
        MemoryLink link = withFree(8);
        Links.putAll(link, 1, Links.END, 1, 2, 3);
        link.command(108, 32, 0, 0, 0, 0, 0);
        link.run(60);
        EXPECT.same("it waits", link.look(1, Links.OUT), 60);
        Links.fell(link, 1);
        EXPECT.same("the next packet stays, and the reply stands behind it", link.look(1, Links.OUT), 11);
    }

    private static void thrownAwayLikeWhatIsPut() {
        EXPECT.under("as put() does it");
        MemoryLink link = Links.up(1);
        link.put(1, 5);
        link.run(1);
        Links.fell(link, 1);
        link.run(60);
        link.command(108, 32, 3, 0, 0, 0, 0);
        link.run(60);
        EXPECT.same("carried out", link.commands(), 1);
        EXPECT.same("thrown away with its END", link.look(1, Links.OUT) + link.look(0, Links.IN) - 2, 0);
        EXPECT.same("nothing more is", link.put(1, 6), 1);
    }
}
