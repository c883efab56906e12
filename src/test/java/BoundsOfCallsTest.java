/**
 * Each sentence of the document's promises 1 to 15 that names a boundary or a refused call, with what lies just inside
 * and just outside of it. Check.says has the sentence, in the document's words and in its order.
 */
public final class BoundsOfCallsTest {
    private static final int BLANKS = 0x20202020;
    private static final int SIGNS = 0x24242424;
    // Two states: 0 is max's, with the commands 0 (two branches) and 2 (one branch); 1 is the target.
    private static final String GAME = "var x:0..1;var b:bool;const c=1;formula f=x;formula g=f;target g=1;"
        + "max true->1/3:stay+2/3:(x'=1);min false->1:stay;max true->1:(x'=c);";
    private static final String FAULTY = "var x:0..1;target false;max x=0->1:(x'=1);max x=1->1:(x'=2);";
    // Where indexes, or what is reckoned from them, may wrap around (a state has 12 places for vars).
    private static final int[] ODD = {Integer.MIN_VALUE, Integer.MIN_VALUE + 1, -715827883, -357913942, -65536, -513, -512, -2,
        -1, 0, 1, 2, 3, 4, 11, 12, 15, 16, 17, 255, 511, 512, 4095, 4096, 65535, 178956971, 268435456, 357913941, 357913942,
        715827883, 1073741824, Integer.MAX_VALUE - 1, Integer.MAX_VALUE};

    private BoundsOfCallsTest() {
    }

    private static GameText explored() {
        GameText game = new GameText();
        Check.due("compile() of " + GAME, 0, Check.compile(game, GAME));
        Check.due("explore() of " + GAME, 0, game.explore());
        return game;
    }

    /** What end() answers, or -2 when it throws just the document's exception. */
    private static int ends(GameText game, int n) {
        try {
            return game.end(n);
        } catch (RuntimeException e) {
            return e.getClass() == IllegalArgumentException.class ? -2 : -3;
        }
    }

    private static int seeks(GameText game) {
        try {
            return game.explore();
        } catch (RuntimeException e) {
            return e.getClass() == IllegalStateException.class ? -2 : -3;
        }
    }

    private static int value(GameText game, int k, int v) {
        try {
            return game.variable(k, v);
        } catch (RuntimeException e) {
            return e.getClass() == IndexOutOfBoundsException.class ? -2 : -3;
        }
    }

    /** No state answers, whatever is asked. */
    private static void hasNoStates(String when, GameText game) {
        Check.due("states() " + when, 0, game.states());
        for (int k : new int[] {Integer.MIN_VALUE, -1, 0, 1, 2, 511, 512, Integer.MAX_VALUE}) {
            Check.due("variable() " + when, -2, value(game, k, 0));
            Check.due("kind() " + when, -1, game.kind(k));
            Check.due("commands() " + when, -1, game.commands(k));
            Check.due("command() " + when, -1, game.command(k, 0));
            Check.due("branches() " + when, -1, game.branches(k, 0));
            for (int what = 0; what < 3; what++) {
                Check.due("branch() " + when, -1, game.branch(k, 0, 0, what));
            }
        }
    }

    private static void newObject() {
        Check.says("Promise 1: An empty tape, no text, no states.");
        GameText game = new GameText();
        for (int n = -1; n <= 21; n++) {
            Check.due("end(" + n + ")", -2, ends(game, n));
        }
        for (int what = -1; what <= 3; what++) {
            Check.due("items(" + what + ")", -1, game.items(what));
        }
        Check.due("explore()", -2, seeks(game));
        Check.due("place()", -1, game.place());
        Check.due("state()", -1, game.state());
        hasNoStates("of a new object", game);
        Check.due("feed()", 20, game.feed(BLANKS, BLANKS, BLANKS, BLANKS, BLANKS));
    }

    private static GameText withBlanks(int feeds, int n) {
        GameText game = new GameText();
        for (int i = 0; i < feeds; i++) {
            game.feed(BLANKS, BLANKS, BLANKS, BLANKS, BLANKS);
        }
        game.end(n);
        return game;
    }

    private static void feeds() {
        Check.says("Promise 2: Twenty more characters on the tape, four by each number, its highest byte first: how many there are.");
        for (int at = 0; at < 40; at++) {
            int[] fours = new int[10];
            for (int i = 0; i < 40; i++) {
                fours[i / 4] = fours[i / 4] << 8 | (i == at ? 0xff : ' ');
            }
            GameText game = new GameText();
            Check.due("feed()", 20, game.feed(fours[0], fours[1], fours[2], fours[3], fours[4]));
            Check.due("feed()", 40, game.feed(fours[5], fours[6], fours[7], fours[8], fours[9]));
            Check.due("compile()", 1, game.compile());
            Check.due("place()", at, game.place());
        }
        Check.says("Promise 2: NONE, and nothing is done, when there would be more than 16384.");
        for (int n = 0; n <= 20; n++) {
            // 818 feeds are 16360 characters, and n of twenty more: up to 16364 there is room for another feed.
            GameText game = withBlanks(819, n);
            int length = 16360 + n;
            int due = length + 20 <= 16384 ? length + 20 : -1;
            Check.due("feed() behind " + length, due, game.feed(BLANKS, BLANKS, BLANKS, BLANKS, BLANKS));
            Check.due("feed() behind that", -1, game.feed(SIGNS, SIGNS, SIGNS, SIGNS, SIGNS));
            Check.due("compile()", 10, game.compile());
            Check.due("its place: all characters, and none of '$'", due < 0 ? length : due, game.place());
            Check.due("feed() on the empty tape", 20, game.feed(BLANKS, BLANKS, BLANKS, BLANKS, BLANKS));
        }
    }

    private static void cuts() {
        Check.says("Promise 3: The tape's last twenty characters become the first n of them: how many characters there are.");
        for (int n = 0; n <= 20; n++) {
            GameText game = new GameText();
            game.feed(BLANKS, BLANKS, BLANKS, BLANKS, BLANKS);
            game.feed(BLANKS, BLANKS, BLANKS, 0x20202024, SIGNS);
            Check.due("end(" + n + ")", 20 + n, game.end(n));
            Check.due("compile()", n > 15 ? 1 : 10, game.compile());
            Check.due("place()", n > 15 ? 35 : 20 + n, game.place());
        }
        Check.says("Promise 3: IllegalArgumentException when n is not 0 .. 20, or there are not twenty.");
        for (int n : ODD) {
            GameText game = new GameText();
            Check.due("end(" + n + ") on an empty tape", -2, ends(game, n));
            game.feed(BLANKS, BLANKS, BLANKS, BLANKS, 0x20202024);
            boolean fits = n >= 0 && n <= 20;
            Check.due("end(" + n + ") on twenty", fits ? n : -2, ends(game, n));
            Check.due("end(" + n + ") again", n == 20 ? 20 : -2, ends(game, n));
            Check.due("end(20) behind it", fits && n < 20 ? -2 : 20, ends(game, 20));
            Check.says("What throws changes nothing.");
            Check.due("compile()", fits && n < 20 ? 10 : 1, game.compile());
            Check.due("place()", fits && n < 20 ? n : 19, game.place());
            Check.says("Promise 3: IllegalArgumentException when n is not 0 .. 20, or there are not twenty.");
        }
        GameText game = new GameText();
        game.feed(BLANKS, BLANKS, BLANKS, BLANKS, BLANKS);
        Check.due("end(19)", 19, ends(game, 19));
        Check.due("end(0) of nineteen", -2, ends(game, 0));
        Check.due("end(20) of nineteen", -2, ends(game, 20));
        Check.due("feed()", 39, game.feed(BLANKS, BLANKS, BLANKS, BLANKS, BLANKS));
        Check.due("end(0)", 19, ends(game, 0));
        Check.due("end(0) of nineteen", -2, ends(game, 0));
    }

    private static void compiles() {
        String[] faulty = {"1:;", "2:target b;", "3:target 1;", "4:target true;target true;", "5:" + Check.times("max true->1:stay;", 61),
            "6:const a=999999999+1;", "7:const a=1/0;", "8:var x:1/2..1;", "9:var x:1..0;", "10:", "10:const c=1;"};
        Check.says("Promise 4: The tape becomes the text, and is empty then: 0, or the fault (the text there was stays).");
        for (String wrong : faulty) {
            int colon = wrong.indexOf(':');
            GameText game = explored();
            Check.due("compile() of " + wrong, Integer.parseInt(wrong.substring(0, colon)),
                Check.compile(game, wrong.substring(colon + 1)));
            Check.due("the tape is empty", -2, ends(game, 0));
            hasGame("behind " + wrong, game);
            Check.due("explore() of the text that stayed", 0, seeks(game));
            hasGame("explored behind " + wrong, game);
            game = new GameText();
            Check.compile(game, wrong.substring(colon + 1));
            Check.due("items(0): there is no text still", -1, game.items(0));
            Check.due("explore(): there is no text still", -2, seeks(game));
            Check.due("feed(): the tape is empty", 20, game.feed(BLANKS, BLANKS, BLANKS, BLANKS, BLANKS));
        }
        Check.says("Promise 4: States are gone when it is 0.");
        GameText game = explored();
        Check.due("compile() of the same text", 0, Check.compile(game, GAME));
        hasNoStates("behind compile()", game);
        Check.due("the tape is empty", -2, ends(game, 0));
        Check.due("explore()", 0, game.explore());
        hasGame("explored again", game);
        Check.due("compile() of a text without vars", 0, Check.compile(game, "target true;"));
        hasNoStates("behind compile()", game);
        Check.due("explore()", 0, game.explore());
        Check.due("states()", 1, game.states());
        Check.due("variable()", -2, value(game, 0, 0));
    }

    private static void hasGame(String when, GameText game) {
        Check.due("items(0) " + when, 2, game.items(0));
        Check.due("items(1) " + when, 3, game.items(1));
        Check.due("items(2) " + when, 3, game.items(2));
        Check.due("states() " + when, 2, game.states());
        Check.due("variable(1, 0) " + when, 1, value(game, 1, 0));
        Check.due("kind(0) " + when, 1, game.kind(0));
        Check.due("kind(1) " + when, 3, game.kind(1));
        Check.due("command(0, 1) " + when, 2, game.command(0, 1));
        Check.due("branch(0, 0, 1, 1) " + when, 2, game.branch(0, 0, 1, 1));
    }

    private static void places() {
        Check.says("Promise 5: The place of the latest fault of compile() or explore();"
            + " NONE when the latest of these had none, or before these.");
        GameText game = new GameText();
        Check.due("before these", -1, game.place());
        Check.due("compile()", 1, Check.compile(game, ";"));
        Check.due("the first place", 0, game.place());
        Check.due("explore()", -2, seeks(game));
        Check.due("what throws changes nothing", 0, game.place());
        Check.due("compile()", 10, Check.compile(game, "     "));
        Check.due("the text's end", 5, game.place());
        Check.due("compile()", 0, Check.compile(game, FAULTY));
        Check.due("none", -1, game.place());
        Check.due("explore()", 12, game.explore());
        Check.due("its place", FAULTY.lastIndexOf('('), game.place());
        Check.due("end(21)", -2, ends(game, 21));
        Check.due("variable()", -2, value(game, 0, 0));
        Check.due("what throws changes nothing", FAULTY.lastIndexOf('('), game.place());
        Check.due("compile()", 0, Check.compile(game, GAME));
        Check.due("none", -1, game.place());
        Check.due("compile()", 2, Check.compile(game, "target b;"));
        Check.due("its place", 7, game.place());
        Check.due("explore()", 0, game.explore());
        Check.due("none", -1, game.place());
    }

    private static void items() {
        Check.says("Promise 6: NONE for others, or without a text.");
        for (int what : ODD) {
            Check.due("items(" + what + ") without a text", -1, new GameText().items(what));
            int due = what == 0 ? 2 : what == 1 || what == 2 ? 3 : -1;
            Check.due("items(" + what + ")", due, explored().items(what));
        }
        GameText game = new GameText();
        Check.due("compile()", 0, Check.compile(game, "target false;"));
        for (int what = 0; what < 3; what++) {
            Check.due("items(" + what + ") of none", 0, game.items(what));
        }
    }

    private static void seeking() {
        Check.says("Promise 7: Finds all states: 0, or the fault; then there are none.");
        GameText game = explored();
        Check.due("explore() again", 0, game.explore());
        hasGame("explored twice", game);
        Check.due("compile()", 0, Check.compile(game, FAULTY));
        Check.due("explore()", 12, game.explore());
        hasNoStates("behind a fault", game);
        Check.due("explore() again", 12, game.explore());
        hasNoStates("behind a fault, twice", game);
        Check.due("items(2): the text stays", 2, game.items(2));
        Check.says("Promise 7: IllegalStateException when there is no text.");
        game = new GameText();
        game.feed(0x74617267, 0x65742074, 0x7275653b, BLANKS, BLANKS);
        Check.due("explore() of a tape", -2, seeks(game));
        Check.due("the tape is as before", 20, ends(game, 20));
        Check.due("compile()", 0, game.compile());
        Check.due("explore()", 0, seeks(game));
        Check.says("Promise 8: For the latest explore() (whatever was compiled since): the state in which its fault was;"
            + " NONE when it had none, and before any.");
        game = new GameText();
        Check.due("before any", -1, game.state());
        Check.due("explore()", -2, seeks(game));
        Check.due("before any", -1, game.state());
        Check.due("compile()", 0, Check.compile(game, "target 1/0=1;"));
        Check.due("before any", -1, game.state());
        Check.due("explore()", 7, game.explore());
        Check.due("state 0", 0, game.state());
        Check.due("compile()", 0, Check.compile(game, FAULTY));
        Check.due("whatever was compiled since", 0, game.state());
        Check.due("explore()", 12, game.explore());
        Check.due("state 1", 1, game.state());
        Check.due("compile()", 10, Check.compile(game, ""));
        Check.due("whatever was compiled since", 1, game.state());
        Check.due("compile()", 0, Check.compile(game, GAME));
        Check.due("whatever was compiled since", 1, game.state());
        Check.due("explore()", 0, game.explore());
        Check.due("none", -1, game.state());
        Check.says("Promise 9: How many states there are; 0 before any.");
        game = new GameText();
        Check.due("before any", 0, game.states());
        Check.due("compile()", 0, Check.compile(game, GAME));
        Check.due("before any", 0, game.states());
    }

    /** All odd indexes: only those of the two states, three commands and four branches answer. */
    private static void indexes() {
        for (int k : ODD) {
            GameText game = explored();
            boolean isState = k == 0 || k == 1;
            Check.says("Promise 10: IndexOutOfBoundsException when there is no such state or var.");
            for (int v : ODD) {
                int due = isState && v == 0 ? k : isState && v == 1 ? 0 : -2;
                Check.due("variable(" + k + ", " + v + ")", due, value(game, k, v));
            }
            Check.says("Promise 11: NONE when there is no such state.");
            Check.due("kind(" + k + ")", k == 0 ? 1 : k == 1 ? 3 : -1, game.kind(k));
            Check.says("Promise 12: NONE when there is none such.");
            Check.due("commands(" + k + ")", k == 0 ? 2 : k == 1 ? 0 : -1, game.commands(k));
            for (int i : ODD) {
                Check.says("Promise 13: NONE when there is none.");
                Check.due("command(" + k + ", " + i + ")", k == 0 && i == 0 ? 0 : k == 0 && i == 1 ? 2 : -1, game.command(k, i));
                Check.says("Promise 14: NONE when there is none.");
                Check.due("branches(" + k + ", " + i + ")", k == 0 && i == 0 ? 2 : k == 0 && i == 1 ? 1 : -1, game.branches(k, i));
            }
        }
        Check.says("Promise 15: Branch j of it: where it leads (what 0), its chance's number above (1), below (2), in least terms;"
            + " NONE when there is none such.");
        for (int k : ODD) {
            for (int i : ODD) {
                branchesOf(k, i);
            }
        }
    }

    private static void branchesOf(int k, int i) {
        int[][] due = k == 0 && i == 0 ? new int[][] {{0, 1, 3}, {1, 2, 3}} : k == 0 && i == 1 ? new int[][] {{1, 1, 1}} : new int[0][];
        GameText game = explored();
        for (int j : ODD) {
            for (int what : new int[] {0, 1, 2, 3, -1, Integer.MIN_VALUE, Integer.MAX_VALUE}) {
                boolean is = j >= 0 && j < due.length && what >= 0 && what < 3;
                Check.due("branch(" + k + ", " + i + ", " + j + ", " + what + ")", is ? due[j][what] : -1, game.branch(k, i, j, what));
            }
        }
    }

    public static void main(String[] args) {
        newObject();
        feeds();
        cuts();
        compiles();
        places();
        items();
        seeking();
        indexes();
        Check.finish("BoundsOfCallsTest");
    }
}
