import java.util.ArrayList;
import java.util.List;

/**
 * "A call that is refused changes nothing": every refusal of every method, on links in many situations.
 * Each is made on one of two links that are alike; both must then be alike in all that can be seen, at
 * once and for as long as their work goes on.
 */
final class RefusalTest {
    private static final Expect EXPECT = new Expect();
    private static final int NO = 0;

    private interface Call {
        int on(MemoryLink link);
    }

    private interface Situation {
        MemoryLink make();
    }

    private record Refusal(String name, int due, Call call) {
    }

    public static void main(String[] args) {
        EXPECT.under("A call that is refused changes nothing");
        List<Refusal> bad = badOnes();
        for (int target = 0; target < 2; target++) {
            int on = target;
            all("new", () -> new MemoryLink(on), bad, nothingToTake(on));
            all("starting", () -> starting(on), bad, nothingToTake(on));
            all("asked for", () -> askedFor(on), bad, nothingToTake(on));
            all("amid packets", () -> amidPackets(on), bad, List.of());
            all("OUT full", () -> outFull(on), bad, noRoom());
            all("IN full", () -> inFull(on), bad, List.of());
            all("thrown away", () -> thrownAway(on), bad, noCommand());
        }
        all("amid a command", RefusalTest::amidACommand, bad, nothingToTake(1));
        all("a reply waits", RefusalTest::replyWaits, bad, List.of());
        EXPECT.finish();
    }

    private static void refusedEnds(List<Refusal> list) {
        for (int end : Links.NO_ENDS) {
            list.add(new Refusal("control of end " + end, NO, link -> link.control(end, false, false) ? 1 : NO));
            list.add(new Refusal("put to end " + end, Links.BAD, link -> link.put(end, 1)));
            list.add(new Refusal("take of end " + end, Links.BAD, link -> link.take(end)));
            list.add(new Refusal("sendTime of end " + end, NO, link -> link.sendTime(end, 9) ? 1 : NO));
            list.add(new Refusal("spoil of end " + end, NO, link -> link.spoil(end) ? 1 : NO));
            list.add(new Refusal("look at end " + end, Links.BAD, link -> link.look(end, 0)));
        }
    }

    private static void refusedNumbers(List<Refusal> list) {
        for (int end = 0; end < 2; end++) {
            int e = end;
            for (int c : new int[] {-1, 258}) {
                list.add(new Refusal("put of " + c, Links.BAD, link -> link.put(e, c)));
            }
            for (int t : new int[] {-1, 64}) {
                list.add(new Refusal("sendTime of " + t, NO, link -> link.sendTime(e, t) ? 1 : NO));
            }
            for (int what : new int[] {-1, 10}) {
                list.add(new Refusal("look at " + what, Links.BAD, link -> link.look(e, what)));
            }
        }
        for (int n : new int[] {-1, 201}) {
            list.add(new Refusal("run of " + n, Links.BAD, link -> link.run(n)));
        }
        for (int address : new int[] {-1, 32}) {
            list.add(new Refusal("memory of " + address, Links.BAD, link -> link.memory(address)));
        }
    }

    private static void refusedCommands(List<Refusal> list) {
        int[] greatest = {255, 255, 65535, 255, 24, 255, 31};
        for (int i = 0; i < greatest.length; i++) {
            for (int wrong : new int[] {-1, greatest[i] + 1}) {
                int[] a = {108, 32, 1, 0, 1, 77, 0};
                a[i] = wrong;
                list.add(new Refusal("command with " + wrong + " in place " + i, Links.BAD,
                        link -> link.command(a[0], a[1], a[2], a[3], a[4], a[5], a[6])));
            }
        }
    }

    private static List<Refusal> badOnes() {
        List<Refusal> list = new ArrayList<>();
        refusedEnds(list);
        refusedNumbers(list);
        refusedCommands(list);
        return list;
    }

    private static List<Refusal> nothingToTake(int target) {
        return List.of(
                new Refusal("take of end 0", Links.NONE, link -> link.take(0)),
                new Refusal("take of end 1", target == 0 ? Links.NONE : Links.BAD, link -> link.take(1)));
    }

    private static List<Refusal> noCommand() {
        return List.of(
                new Refusal("a short command", Links.FULL, link -> link.command(76, 32, 0, 0, 0, 0, 0)),
                new Refusal("a long command", Links.FULL, link -> link.command(108, 32, 0, 0, 24, 0, 8)),
                new Refusal("a broken command", Links.FULL, link -> link.command(108, 32, 0, 0, 1, 0, 16)));
    }

    private static List<Refusal> noRoom() {
        List<Refusal> list = new ArrayList<>(noCommand());
        for (int end = 0; end < 2; end++) {
            int e = end;
            for (int c : new int[] {0, 255, Links.END, Links.BREAK}) {
                list.add(new Refusal("put of " + c + " to a full OUT", Links.FULL, link -> link.put(e, c)));
            }
        }
        return list;
    }

    private static MemoryLink starting(int target) {
        MemoryLink link = Links.enabled(target);
        link.run(19);
        return link;
    }

    private static MemoryLink askedFor(int target) {
        MemoryLink link = Links.up(target);
        link.sendTime(0, 1);
        link.sendTime(1, 0);
        link.spoil(1);
        return link;
    }

    private static MemoryLink amidPackets(int target) {
        MemoryLink link = Links.up(target);
        for (int end = 0; end < 2; end++) {
            Links.putAll(link, end, 1, 2, 3, 4, Links.END, 5);
        }
        link.run(3);
        return link;
    }

    private static MemoryLink outFull(int target) {
        MemoryLink link = Links.enabled(target);
        for (int end = 0; end < 2; end++) {
            Links.putTimes(link, end, 60, 7);
            Links.putAll(link, end, Links.END, 8, 9, Links.BREAK);
        }
        return link;
    }

    private static MemoryLink inFull(int target) {
        MemoryLink link = Links.up(target);
        for (int end = 0; end < 2; end++) {
            Links.putTimes(link, end, 40, 7);
        }
        link.run(60);
        return link;
    }

    private static MemoryLink thrownAway(int target) {
        MemoryLink link = Links.up(target);
        link.put(0, 1);
        link.put(1, 1);
        link.run(2);
        Links.bothFellAtOnce(link);
        return link;
    }

    private static MemoryLink amidACommand() {
        MemoryLink link = Links.up(1);
        link.command(108, 32, 5, 4, 3, 60, 0);
        link.run(9);
        return link;
    }

    private static MemoryLink replyWaits() {
        MemoryLink link = Links.up(1);
        Links.putTimes(link, 1, 24, 7);
        link.run(30);
        Links.putTimes(link, 1, 57, 7);
        link.command(124, 32, 5, 4, 3, 60, 0);
        link.run(40);
        return link;
    }

    private static void all(String name, Situation situation, List<Refusal> bad, List<Refusal> more) {
        for (Refusal refusal : bad) {
            one(name, situation, refusal);
        }
        for (Refusal refusal : more) {
            one(name, situation, refusal);
        }
    }

    private static void one(String name, Situation situation, Refusal refusal) {
        MemoryLink refused = situation.make();
        MemoryLink twin = situation.make();
        String what = name + ", " + refusal.name();
        EXPECT.same(what, refusal.call().on(refused), refusal.due());
        EXPECT.same(what + ", once more", refusal.call().on(refused), refusal.due());
        EXPECT.yes(what + ", alike at once", seen(refused).equals(seen(twin)));
        EXPECT.yes(what + ", alike later", goneOn(refused).equals(goneOn(twin)));
    }

    private static String seen(MemoryLink link) {
        StringBuilder text = new StringBuilder();
        for (int what = 0; what < 10; what++) {
            text.append(link.look(0, what)).append(' ').append(link.look(1, what)).append(' ');
        }
        for (int address = 0; address < 32; address++) {
            text.append(link.memory(address)).append(' ');
        }
        return text.append(link.commands()).append(' ').append(link.status()).append('\n').toString();
    }

    /** Goes on for a while, with a new packet, and tells all that comes. */
    private static String goneOn(MemoryLink link) {
        StringBuilder text = new StringBuilder();
        text.append(link.run(1)).append(' ').append(link.look(0, Links.SENT)).append(' ')
                .append(link.look(1, Links.SENT)).append('\n');
        text.append(link.put(0, 3)).append(' ').append(link.put(1, 4)).append('\n');
        text.append(link.run(2)).append(' ').append(seen(link));
        for (int round = 0; round < 2; round++) {
            text.append(link.run(30)).append(' ');
            for (int i = 0; i < 25; i++) {
                text.append(link.take(0)).append(' ').append(link.take(1)).append(' ');
            }
        }
        return text.append(seen(link)).toString();
    }
}
