/** The target's replies (promises 3, 6 and 10 to 12): what they hold, and how they wait for room. */
final class ReplyTest {
    private static final Expect EXPECT = new Expect();

    public static void main(String[] args) {
        writes();
        reads();
        changes();
        refusals();
        unknownOnes();
        silentOnes();
        waitsForRoom();
        goesWhenThereIsJustRoom();
        isThrownAwayAsPutDoesIt();
        endsWhatIsThrownAway();
        EXPECT.finish();
    }

    private static int[] write(int instruction, int status, int high, int low) {
        return new int[] {67, 1, instruction, status, high, low,
            Links.check(67, 1, instruction, status, high, low), Links.END};
    }

    private static int[] answer(int instruction, int status, int high, int low, int... bytes) {
        int[] whole = new int[10 + bytes.length];
        int[] head = {67, 1, instruction, status, high, low, bytes.length};
        System.arraycopy(head, 0, whole, 0, 7);
        whole[7] = Links.check(head);
        System.arraycopy(bytes, 0, whole, 8, bytes.length);
        whole[8 + bytes.length] = Links.check(bytes);
        whole[9 + bytes.length] = Links.END;
        return whole;
    }

    /** Takes a reply as it comes, so that it may be longer than IN. */
    private static void reply(String what, MemoryLink link, int... due) {
        link.run(40);
        for (int i = 0; i < due.length; i++) {
            EXPECT.same(what + ", character " + i, link.take(0), due[i]);
            link.run(3);
        }
        EXPECT.same(what + ", nothing more", link.take(0), Links.NONE);
    }

    private static void writes() {
        MemoryLink link = Links.up(1);
        link.command(108, 32, 0x1234, 0, 2, 5, 0);
        reply("write", link, write(44, 0, 0x12, 0x34));
        link.command(120, 32, 65535, 0, 2, 5, 2);
        reply("write with a wrong check", link, write(56, 4, 255, 255));
        link.command(104, 32, 255, 0, 2, 5, 4);
        reply("write with too few", link, write(40, 5, 0, 255));
    }

    private static void reads() {
        MemoryLink link = Links.up(1);
        link.command(100, 32, 0, 4, 16, 200, 0);
        link.command(76, 32, 7, 3, 4, 0, 0);
        reply("read with STEP", link, answer(12, 0, 0, 7, 0, 200, 201, 202));
        link.command(72, 32, 256, 5, 3, 0, 0);
        reply("read without STEP", link, answer(8, 0, 1, 0, 201, 201, 201));
        link.command(76, 32, 8, 16, 16, 0, 0);
        reply("read of sixteen", link, answer(12, 0, 0, 8,
                212, 213, 214, 215, 0, 0, 0, 0, 0, 0, 0, 0, 0, 0, 0, 0));
        link.command(76, 32, 9, 31, 0, 0, 0);
        reply("read of none", link, answer(12, 0, 0, 9));
    }

    private static void changes() {
        MemoryLink link = Links.up(1);
        link.command(100, 32, 0, 0, 4, 50, 0);
        link.command(92, 32, 3, 1, 4, 240, 0);
        reply("change answers what was there", link, answer(28, 0, 0, 3, 51, 52));
        EXPECT.bytes("and changes it then", link, 0, 50, 241, 244 & 4 | 241 & 243, 53);
    }

    private static void refusals() {
        MemoryLink link = Links.up(1);
        link.command(76, 0, 1, 0, 4, 0, 0);
        reply("read with a wrong key", link, answer(12, 3, 0, 1));
        link.command(76, 32, 1, 30, 4, 0, 0);
        reply("read beyond the memory", link, answer(12, 10, 0, 1));
        link.command(92, 32, 1, 0, 4, 0, 2);
        reply("change with a wrong check", link, answer(28, 4, 0, 1));
        link.command(92, 32, 1, 0, 3, 0, 0);
        reply("change with an odd length", link, answer(28, 11, 0, 1));
        link.command(108, 32, 1, 0, 17, 0, 0);
        reply("write of too many", link, write(44, 11, 0, 1));
    }

    private static void unknownOnes() {
        MemoryLink link = Links.up(1);
        link.command(44, 32, 1, 0, 1, 0, 0);
        reply("without 64, with WRITE", link, write(44, 2, 0, 1));
        link.command(12, 32, 1, 0, 1, 0, 0);
        reply("without 64 and WRITE", link, answer(12, 2, 0, 1));
        link.command(200, 32, 1, 0, 1, 0, 0);
        reply("with 128", link, answer(136, 2, 0, 1));
        link.command(255, 32, 1, 0, 1, 0, 0);
        reply("with all", link, write(191, 2, 0, 1));
        link.command(88, 32, 1, 0, 2, 0, 0);
        reply("VERIFY without STEP", link, answer(24, 2, 0, 1));
    }

    private static void silentOnes() {
        MemoryLink link = Links.up(1);
        for (int instruction : new int[] {100, 96, 112, 116, 64, 68, 84, 0, 247}) {
            int before = link.commands();
            link.command(instruction, 32, 1, 0, 2, 0, 0);
            link.run(60);
            EXPECT.same("counted", link.commands(), before + 1);
            EXPECT.same("no reply to " + instruction, link.look(0, Links.IN) + link.look(1, Links.OUT), 0);
        }
    }

    /** OUT of end 1 holds as many as told, and IN of end 0 is full, so that none of them go. */
    private static MemoryLink withOut(int held) {
        MemoryLink link = Links.up(1);
        for (int i = 0; i < 24; i++) {
            link.put(1, i);
        }
        link.run(30);
        for (int i = 0; i < held; i++) {
            link.put(1, 100 + i % 100);
        }
        EXPECT.same("OUT of end 1", link.look(1, Links.OUT), held);
        EXPECT.same("IN of end 0", link.look(0, Links.IN), 24);
        return link;
    }

    private static void waitsForRoom() {
        MemoryLink link = withOut(57);
        link.command(108, 32, 0, 0, 1, 9, 0);
        link.run(40);
        EXPECT.same("carried out", link.memory(0), 9);
        EXPECT.same("and counted", link.commands(), 1);
        EXPECT.same("seven places are too few", link.look(1, Links.OUT), 57);
        link.command(108, 32, 0, 0, 1, 10, 0);
        link.run(40);
        EXPECT.same("the target takes nothing", link.look(1, Links.IN), 12);
        for (int i = 0; i < 8; i++) {
            link.take(0);
        }
        link.run(1);
        EXPECT.same("end 0 lends", link.look(0, Links.SENT), Links.CREDIT);
        EXPECT.same("the reply still waits", link.look(1, Links.OUT), 57);
        link.run(1);
        EXPECT.same("one goes, the reply comes", link.look(1, Links.OUT), 64);
        EXPECT.same("the target takes nothing then", link.look(1, Links.IN), 12);
        link.run(1);
        EXPECT.same("now it does", link.look(1, Links.IN), 11);
        EXPECT.same("the second is not obeyed yet", link.memory(0), 9);
        link.run(11);
        EXPECT.same("now it is", link.memory(0), 10);
        EXPECT.same("and counted", link.commands(), 2);
    }

    private static void goesWhenThereIsJustRoom() {
        MemoryLink write = withOut(56);
        write.command(108, 32, 0, 0, 1, 9, 0);
        write.run(40);
        EXPECT.same("eight places are enough for a write", write.look(1, Links.OUT), 64);

        MemoryLink read = withOut(64 - 13);
        read.command(76, 32, 0, 0, 3, 0, 0);
        read.run(40);
        EXPECT.same("thirteen for a read of three", read.look(1, Links.OUT), 64);

        MemoryLink longer = withOut(64 - 13);
        longer.command(76, 32, 0, 0, 4, 0, 0);
        longer.run(40);
        EXPECT.same("but not for a read of four", longer.look(1, Links.OUT), 51);
    }

    /** End 1 falls amid a packet of its own; the reply that waits is then the rest of that packet. */
    private static void isThrownAwayAsPutDoesIt() {
        MemoryLink link = withOut(57);
        link.command(108, 32, 0, 0, 1, 9, 0);
        link.run(40);
        link.spoil(0);
        link.run(2);
        EXPECT.same("end 1 fell", link.look(1, Links.FALLS), 1);
        EXPECT.same("all is thrown away, the reply too", link.look(1, Links.OUT), 0);
        EXPECT.same("its END was the packet's", link.put(1, 5), 1);
    }

    private static void endsWhatIsThrownAway() {
        MemoryLink link = Links.up(1);
        link.put(1, 1);
        link.run(3);
        link.spoil(0);
        link.run(60);
        EXPECT.same("still thrown away", link.put(1, 2), 0);
        link.command(108, 32, 0, 0, 1, 9, 0);
        link.run(40);
        EXPECT.same("carried out", link.memory(0), 9);
        EXPECT.same("the first reply is lost", link.look(1, Links.OUT), 0);
        EXPECT.taken("it never came", link, 0, 1, Links.BREAK);
        link.command(108, 32, 0, 0, 1, 10, 0);
        reply("the second comes", link, write(44, 0, 0, 0));
    }
}
