/** Compares answers with those that are due, prints each that differs, and tells the exit code. */
final class Expect {
    private int wrong = 0;
    private int compared = 0;
    private String sentence = "";

    /** Names the sentence of the document that the answers from here on are held against. */
    void under(String quoted) {
        sentence = "\"" + quoted + "\": ";
    }

    void same(String what, long got, long due) {
        compared++;
        if (got != due) {
            wrong++;
            System.out.println(sentence + what + ": answered " + got + ", due is " + due);
        }
    }

    void yes(String what, boolean got) {
        same(what, got ? 1 : 0, 1);
    }

    void no(String what, boolean got) {
        same(what, got ? 1 : 0, 0);
    }

    /** Takes all of an end's IN and compares it with the characters that are due. */
    void taken(String what, MemoryLink link, int end, int... due) {
        same(what + ", how many came", link.look(end, Links.IN), due.length);
        for (int i = 0; i < due.length; i++) {
            same(what + ", character " + i, link.take(end), due[i]);
        }
        same(what + ", nothing more", link.take(end), MemoryLink.NONE);
    }

    /** Compares the memory, from an address on, with the bytes that are due. */
    void bytes(String what, MemoryLink link, int address, int... due) {
        for (int i = 0; i < due.length; i++) {
            same(what + ", byte " + (address + i), link.memory(address + i), due[i]);
        }
    }

    void finish() {
        System.out.println(compared + " answers compared, " + wrong + " wrong");
        if (wrong != 0 || compared == 0) {
            System.exit(1);
        }
    }
}
