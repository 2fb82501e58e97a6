import java.lang.reflect.Member;
import java.lang.reflect.Modifier;
import java.util.ArrayList;
import java.util.Arrays;
import java.util.List;

/** The public face: exactly the constants, the constructor and the methods of the document. */
final class FaceTest {
    private static final List<String> FACE = List.of(
            "public static final int MemoryLink.BAD",
            "public static final int MemoryLink.FULL",
            "public static final int MemoryLink.NONE",
            "public MemoryLink(int)",
            "public boolean MemoryLink.control(int,boolean,boolean)",
            "public int MemoryLink.run(int)",
            "public int MemoryLink.put(int,int)",
            "public int MemoryLink.command(int,int,int,int,int,int,int)",
            "public int MemoryLink.take(int)",
            "public boolean MemoryLink.sendTime(int,int)",
            "public boolean MemoryLink.spoil(int)",
            "public int MemoryLink.look(int,int)",
            "public int MemoryLink.memory(int)",
            "public int MemoryLink.commands()",
            "public int MemoryLink.status()");

    public static void main(String[] args) {
        Expect expect = new Expect();
        List<String> found = new ArrayList<>();
        addOpen(found, MemoryLink.class.getDeclaredFields());
        addOpen(found, MemoryLink.class.getDeclaredConstructors());
        addOpen(found, MemoryLink.class.getDeclaredMethods());
        for (String due : FACE) {
            expect.yes("has " + due, found.contains(due));
        }
        for (String open : found) {
            expect.yes("may have " + open, FACE.contains(open));
        }
        expect.same("BAD", MemoryLink.BAD, -1);
        expect.same("FULL", MemoryLink.FULL, -2);
        expect.same("NONE", MemoryLink.NONE, -3);
        int modifiers = MemoryLink.class.getModifiers();
        expect.yes("public and final", Modifier.isPublic(modifiers) && Modifier.isFinal(modifiers));
        expect.finish();
    }

    private static void addOpen(List<String> found, Member[] members) {
        Arrays.stream(members)
                .filter(member -> !Modifier.isPrivate(member.getModifiers()) && !member.isSynthetic())
                .forEach(member -> found.add(member.toString()));
    }
}
