import com.sun.management.ThreadMXBean;
import java.lang.management.ManagementFactory;

/**
 * "All memory is the class's own, made with the object or doubled to these bounds": what the dearest runs of 512 calls
 * make stays far below the room of a run, some 600,000 objects and arrays, 7.3 million fields and elements.
 */
public final class RoomTest {
    // An int takes four bytes, and an object or array at least sixteen: these hold for both bounds.
    private static final long ROOM = Math.min(4L * 7300000, 16L * 600000);
    private static final ThreadMXBean THREADS = (ThreadMXBean) ManagementFactory.getThreadMXBean();

    private static GameText game;
    private static int calls;

    private RoomTest() {
    }

    private static long made() {
        return THREADS.getThreadAllocatedBytes(Thread.currentThread().getId());
    }

    private static int[][] packed(String text) {
        int[][] all = new int[(text.length() + 19) / 20][5];
        for (int i = 0; i < all.length * 20; i++) {
            int c = i < text.length() ? text.charAt(i) : ' ';
            all[i / 20][i % 20 / 4] = all[i / 20][i % 20 / 4] << 8 | c;
        }
        return all;
    }

    private static int compiles(int[][] text) {
        for (int[] five : text) {
            game.feed(five[0], five[1], five[2], five[3], five[4]);
        }
        calls += text.length + 1;
        return game.compile();
    }

    private static int explores() {
        calls++;
        return game.explore();
    }

    private static void begins() {
        game = new GameText();
        calls = 0;
    }

    private static void measured(String what, long before) {
        long used = made() - before;
        System.out.println(what + ": " + used + " bytes in " + calls + " calls");
        Check.dueTrue(what + " stays below a fourth of the room", 4 * used < ROOM);
        Check.dueTrue(what + " has at most 512 calls", calls <= 512);
    }

    /** 512 states of eight branches each. */
    private static String full() {
        StringBuilder all = new StringBuilder("var x:0..511;target false;max true->1/8:(x'=(x+1)%512)");
        for (int i = 2; i <= 8; i++) {
            all.append("+1/8:(x'=(x+").append(i).append(")%512)");
        }
        return all.append(";").toString();
    }

    // '|' makes the most nodes of a character.
    private static String dense(int length) {
        return "target true" + Check.times("|1=1", (length - 12) / 4) + ";";
    }

    private static void longTexts() {
        int[][] first = packed(dense(5000));
        int[][] second = packed(dense(5000));
        long before = made();
        begins();
        Check.due("compile()", 0, compiles(first));
        Check.due("explore()", 0, explores());
        Check.due("compile()", 0, compiles(second));
        Check.due("explore()", 0, explores());
        measured("two long texts", before);
    }

    private static void longestText() {
        int[][] longest = packed(full() + "max " + dense(9900).substring(7).replace(";", "->0:stay+1:(x'=(x+1)%512);"));
        long before = made();
        begins();
        Check.due("compile()", 0, compiles(longest));
        Check.due("explore()", 5, explores());
        measured("the longest text", before);
    }

    private static void manyTexts() {
        int[][] small = packed("var x:0..511;target x=511;max true->1:(x'=x+1);");
        long before = made();
        begins();
        for (int i = 0; i < 100; i++) {
            Check.due("compile()", 0, compiles(small));
            Check.due("explore()", 0, explores());
        }
        measured("many texts", before);
    }

    private static void manyCalls() {
        int[][] states = packed(full());
        long before = made();
        begins();
        Check.due("compile()", 0, compiles(states));
        for (; calls < 400;) {
            Check.due("explore()", 0, explores());
        }
        for (int k = 0; calls < 512; k++, calls++) {
            Check.due("branch()", 8, game.branch(k, 0, 0, 2));
        }
        measured("explored again and again", before);
    }

    private static void manyObjects() {
        long before = made();
        for (int i = 0; i < 100; i++) {
            begins();
        }
        measured("a hundred new objects", before);
    }

    public static void main(String[] args) {
        longTexts();
        longestText();
        manyTexts();
        manyCalls();
        manyObjects();
        Check.finish("RoomTest");
    }
}
