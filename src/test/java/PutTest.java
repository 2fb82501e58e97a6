/** Promise 4: put, and what becomes of OUT and IN when an end falls. */
final class PutTest {
    private static final Expect EXPECT = new Expect();

    public static void main(String[] args) {
        countsAndOrder();
        outHoldsSixtyFour();
        wrongNumbers();
        badComesBeforeFull();
        restOfAnOpenPacketIsThrownAway();
        restThatIsPutLaterIsThrownAway();
        breakEndsWhatIsThrownAway();
        throwingOutlastsARestart();
        aClosedPacketLeavesTheNextAlone();
        openIsForgottenWhenRunBegins();
        anOpenInletGetsABreak();
        breakIsTheTwentyFifthInIn();
        EXPECT.finish();
    }

    private static void countsAndOrder() {
        MemoryLink link = Links.up(0);
        int[] characters = {0, 255, 128, Links.END, Links.BREAK, 1, Links.END};
        for (int end = 0; end < 2; end++) {
            for (int i = 0; i < characters.length; i++) {
                EXPECT.same("put", link.put(end, characters[i]), i + 1);
            }
        }
        link.run(1);
        EXPECT.same("sent first", link.look(0, Links.SENT), 0);
        EXPECT.same("one fewer in OUT", link.look(0, Links.OUT), 6);
        link.run(10);
        EXPECT.taken("what end 0 put", link, 1, characters);
        EXPECT.taken("what end 1 put", link, 0, characters);
    }

    private static void outHoldsSixtyFour() {
        MemoryLink link = Links.enabled(0);
        for (int i = 1; i <= 64; i++) {
            EXPECT.same("put number " + i, link.put(1, i), i);
        }
        EXPECT.same("number 65", link.put(1, 65), Links.FULL);
        EXPECT.same("OUT stays", link.look(1, Links.OUT), 64);
        EXPECT.same("the other end has room", link.put(0, 1), 1);
        link.run(22);
        EXPECT.same("none sent yet", link.put(1, 65), Links.FULL);
        link.run(1);
        EXPECT.same("room for one", link.put(1, 65), 64);
        for (int i = 1; i <= 65; i++) {
            link.run(4);
            EXPECT.same("character " + i, link.take(0), i);
        }
    }

    private static void wrongNumbers() {
        MemoryLink link = new MemoryLink(0);
        for (int end : Links.NO_ENDS) {
            EXPECT.same("put to no end", link.put(end, 1), Links.BAD);
        }
        for (int c : new int[] {-1, 258, 259, 260, Integer.MIN_VALUE, Integer.MAX_VALUE}) {
            EXPECT.same("put(0, " + c + ")", link.put(0, c), Links.BAD);
            EXPECT.same("put(1, " + c + ")", link.put(1, c), Links.BAD);
        }
        EXPECT.same("nothing in OUT of 0", link.look(0, Links.OUT), 0);
        EXPECT.same("nothing in OUT of 1", link.look(1, Links.OUT), 0);
    }

    private static void badComesBeforeFull() {
        MemoryLink link = new MemoryLink(0);
        for (int i = 0; i < 64; i++) {
            link.put(0, i);
        }
        EXPECT.same("full and bad", link.put(0, 258), Links.BAD);
        EXPECT.same("full and good", link.put(0, 257), Links.FULL);
    }

    private static void restOfAnOpenPacketIsThrownAway() {
        for (int closing = Links.END; closing <= Links.BREAK; closing++) {
            MemoryLink link = Links.up(0);
            Links.putAll(link, 0, 1, 2, 3, closing, 4, 5, Links.END);
            link.run(2);
            link.control(0, false, false);
            link.run(1);
            EXPECT.same("the next packet stays", link.look(0, Links.OUT), 3);
            EXPECT.same("and grows", link.put(0, 6), 4);
            link.control(0, true, false);
            link.run(60);
            EXPECT.taken("after the fall", link, 1, 1, 2, Links.BREAK, 4, 5, Links.END, 6);
        }
    }

    private static void restThatIsPutLaterIsThrownAway() {
        MemoryLink link = Links.up(0);
        Links.putAll(link, 0, 1, 2, 3);
        link.run(2);
        link.control(0, false, false);
        link.run(1);
        EXPECT.same("all is thrown away", link.look(0, Links.OUT), 0);
        EXPECT.same("more of it", link.put(0, 4), 0);
        EXPECT.same("bad is bad all the same", link.put(0, 258), Links.BAD);
        EXPECT.same("its end", link.put(0, Links.END), 0);
        EXPECT.same("the next packet", link.put(0, 5), 1);
        link.control(0, true, false);
        link.run(60);
        EXPECT.taken("after the fall", link, 1, 1, 2, Links.BREAK, 5);
    }

    private static void breakEndsWhatIsThrownAway() {
        MemoryLink link = Links.up(0);
        link.put(1, 1);
        link.run(2);
        link.control(1, false, false);
        link.run(1);
        EXPECT.same("data", link.put(1, 2), 0);
        EXPECT.same("BREAK", link.put(1, Links.BREAK), 0);
        EXPECT.same("the next packet", link.put(1, Links.END), 1);
    }

    private static void throwingOutlastsARestart() {
        MemoryLink link = Links.up(0);
        link.put(0, 1);
        link.run(2);
        link.spoil(0);
        link.spoil(1);
        link.run(60);
        EXPECT.same("up again", link.look(0, Links.STATE), Links.RUN);
        EXPECT.same("still thrown away", link.put(0, 2), 0);
        link.spoil(0);
        link.spoil(1);
        link.run(60);
        EXPECT.same("and after one more fall", link.put(0, 2), 0);
        EXPECT.same("up to the end", link.put(0, Links.END), 0);
        EXPECT.same("but no further", link.put(0, 3), 1);
    }

    private static void aClosedPacketLeavesTheNextAlone() {
        MemoryLink link = Links.up(0);
        Links.putAll(link, 0, 1, Links.END, 2, Links.END);
        link.run(2);
        link.control(0, false, false);
        link.run(1);
        EXPECT.same("nothing is thrown away", link.look(0, Links.OUT), 2);
        EXPECT.taken("no BREAK either", link, 1, 1, Links.END);
    }

    private static void openIsForgottenWhenRunBegins() {
        MemoryLink link = Links.up(0);
        Links.putAll(link, 0, 1, 2, Links.END);
        link.run(2);
        link.spoil(0);
        link.spoil(1);
        link.run(3);
        EXPECT.taken("the fall's BREAK", link, 1, 1, 2, Links.BREAK);
        link.run(40);
        Links.putAll(link, 0, 3, Links.END);
        link.control(0, false, false);
        link.control(1, false, false);
        EXPECT.same("both fall", link.run(1), Links.states(Links.RESET, Links.RESET));
        EXPECT.same("OUT stays, none of it was sent", link.look(0, Links.OUT), 2);
        EXPECT.same("no second BREAK", link.look(1, Links.IN), 0);
    }

    private static void anOpenInletGetsABreak() {
        MemoryLink link = Links.up(0);
        Links.putAll(link, 1, 8, 9);
        link.run(3);
        link.control(0, false, false);
        link.run(1);
        EXPECT.taken("broken off", link, 0, 8, 9, Links.BREAK);
    }

    private static void breakIsTheTwentyFifthInIn() {
        MemoryLink link = Links.up(0);
        for (int i = 0; i < 30; i++) {
            link.put(0, i);
        }
        link.run(40);
        link.spoil(0);
        link.run(2);
        EXPECT.same("24 and BREAK", link.look(1, Links.IN), 25);
        link.run(100);
        EXPECT.same("no more come", link.look(1, Links.IN), 25);
        for (int i = 0; i < 24; i++) {
            EXPECT.same("in order", link.take(1), i);
        }
        EXPECT.same("BREAK is last", link.take(1), Links.BREAK);
        EXPECT.same("that was all", link.take(1), Links.NONE);
    }
}
