/** Each promise's own call: ordinary inputs, the edges that the document names, and wrong inputs. */
public final class CallsTest {
    // Three states: 0 is max's, 1 is min's, 2 is the target; state 0's command 1 has joined branches.
    private static final String GAME = "var x: 0..2; var b: bool init true; const c = 1/2; formula f = x = 2;\n"
        + "target f;\n"
        + "min x = 1 -> 1: (x' = 2) & (b' = false);\n"
        + "max x = 0 -> c: (x' = x + 1) + 1 - c: stay;\n"
        + "max x = 7 -> 1: stay;\n"
        + "max x = 0 -> 1/6: (x' = 1) + 0: (x' = 9) + 1/3: stay + 1/2: (x' = x + 1);\n";

    private CallsTest() {
    }

    private static GameText explored(String text) {
        GameText game = new GameText();
        Check.due("compile() of " + text, 0, Check.compile(game, text));
        Check.due("explore() of " + text, 0, game.explore());
        return game;
    }

    private static boolean endThrows(GameText game, int n) {
        try {
            game.end(n);
        } catch (IllegalArgumentException e) {
            return e.getClass() == IllegalArgumentException.class;
        }
        return false;
    }

    private static boolean exploreThrows(GameText game) {
        try {
            game.explore();
        } catch (IllegalStateException e) {
            return e.getClass() == IllegalStateException.class;
        }
        return false;
    }

    private static boolean variableThrows(GameText game, int k, int v) {
        try {
            game.variable(k, v);
        } catch (IndexOutOfBoundsException e) {
            return e.getClass() == IndexOutOfBoundsException.class;
        }
        return false;
    }

    private static void promise1() {
        GameText game = new GameText();
        Check.dueTrue("1: the tape is empty", endThrows(game, 0));
        Check.due("1: items", -1, game.items(0));
        Check.dueTrue("1: there is no text", exploreThrows(game));
        Check.due("1: states", 0, game.states());
        Check.due("1: state", -1, game.state());
        Check.due("1: place", -1, game.place());
        Check.due("1: kind", -1, game.kind(0));
        GameText other = explored(GAME);
        Check.due("1: another object's states", 0, game.states());
        Check.due("1: its own states", 3, other.states());
    }

    private static void promise2() {
        GameText game = new GameText();
        // "target true;" with its highest bytes first, then blanks.
        Check.due("2: feed", 20, game.feed(0x74617267, 0x65742074, 0x7275653b, 0x20202020, 0x20202020));
        Check.due("2: that is a text", 0, game.compile());
        Check.due("2: feed behind compile", 20, game.feed(0x74617267, 0x65742074, 0x7275653b, 0x20202020, 0x202020ff));
        Check.due("2: 255 is no word", 1, game.compile());
        Check.due("2: its place", 19, game.place());
        Check.due("2: feed", 20, game.feed(-1, 0, Integer.MIN_VALUE, Integer.MAX_VALUE, 7));
        Check.due("2: feed", 40, game.feed(-1, 0, Integer.MIN_VALUE, Integer.MAX_VALUE, 7));
        // The tape's own bound can only be met by more than 512 calls; it holds all the same.
        GameText full = new GameText();
        int blanks = 0x20202020;
        for (int i = 1; i <= 819; i++) {
            Check.due("2: feed " + i, 20 * i, full.feed(blanks, blanks, blanks, blanks, blanks));
        }
        Check.due("2: one too many", -1, full.feed(blanks, blanks, blanks, blanks, blanks));
        Check.due("2: nothing was done", 16380, full.end(20));
        full.end(4);
        Check.due("2: just full", 16384, full.feed(blanks, blanks, blanks, blanks, blanks));
        Check.due("2: one too many", -1, full.feed(blanks, blanks, blanks, blanks, blanks));
        Check.due("2: 16365", 16365, full.end(1));
        Check.due("2: one would be too many by one", -1, full.feed(blanks, blanks, blanks, blanks, blanks));
        full.end(19);
        Check.due("2: just full again", 16384, full.feed(blanks, blanks, blanks, blanks, blanks));
        Check.due("2: a full tape without a target", 10, full.compile());
        Check.due("2: its place", 16384, full.place());
    }

    private static void promise3() {
        GameText game = new GameText();
        game.feed(0x74617267, 0x65742074, 0x7275653b, 0x40404040, 0x40404040);
        Check.dueTrue("3: -1", endThrows(game, -1));
        Check.dueTrue("3: 21", endThrows(game, 21));
        Check.dueTrue("3: least int", endThrows(game, Integer.MIN_VALUE));
        Check.dueTrue("3: greatest int", endThrows(game, Integer.MAX_VALUE));
        Check.due("3: all twenty", 20, game.end(20));
        Check.due("3: twelve", 12, game.end(12));
        Check.dueTrue("3: there are not twenty", endThrows(game, 0));
        Check.dueTrue("3: there are not twenty", endThrows(game, 20));
        Check.due("3: the first twelve are left", 0, game.compile());
        Check.dueTrue("3: compile empties the tape", endThrows(game, 0));
        game.feed(0x74617267, 0x65742074, 0x7275653b, 0x20202020, 0x20202020);
        game.feed(0, 0, 0, 0, 0);
        Check.due("3: none of the last twenty", 20, game.end(0));
        Check.due("3: once more", 1, game.end(1));
        Check.due("3: a 't'", 1, game.compile());
        Check.due("3: its place", 0, game.place());
    }

    private static void promise4() {
        GameText game = explored(GAME);
        Check.due("4: a text with a fault", 2, Check.compile(game, "var y: 0..1; target z;"));
        Check.due("4: its place", 20, game.place());
        Check.due("4: the tape is empty", 10, game.compile());
        Check.due("4: the text stays", 4, game.items(2));
        Check.due("4: its states stay", 3, game.states());
        Check.due("4: and their vars", 2, game.variable(2, 0));
        Check.due("4: it can be explored again", 0, game.explore());
        Check.due("4: its states", 3, game.states());
        Check.due("4: another text", 0, Check.compile(game, "target false;"));
        Check.due("4: its commands", 0, game.items(2));
        Check.due("4: states are gone", 0, game.states());
        Check.due("4: kinds are gone", -1, game.kind(0));
        Check.dueTrue("4: vars are gone", variableThrows(game, 0, 0));
        Check.due("4: the other text is explored", 0, game.explore());
        Check.due("4: its states", 1, game.states());
        Check.due("4: it is an end", 0, game.kind(0));
        Check.due("4: the same text again", 0, Check.compile(game, "target false;"));
        Check.due("4: states are gone", 0, game.states());
    }

    private static void promise5() {
        GameText game = new GameText();
        Check.due("5: before these", -1, game.place());
        Check.due("5: compile", 1, Check.compile(game, "target true; ;"));
        Check.due("5: its place", 13, game.place());
        exploreThrows(game);
        Check.due("5: what throws changes nothing", 13, game.place());
        Check.due("5: compile", 0, Check.compile(game, "target true;"));
        Check.due("5: no fault", -1, game.place());
        Check.due("5: compile", 0, Check.compile(game, "target 1/0=1;"));
        Check.due("5: explore", 7, game.explore());
        Check.due("5: its place", 8, game.place());
        Check.due("5: other calls leave it", -1, game.kind(0));
        Check.due("5: its place", 8, game.place());
        Check.due("5: compile", 1, Check.compile(game, "target"));
        Check.due("5: the text's length", 6, game.place());
        Check.due("5: explore tells again", 7, game.explore());
        Check.due("5: its place again", 8, game.place());
    }

    private static void promise6() {
        GameText game = new GameText();
        Check.due("6: compile", 10, Check.compile(game, "var x:0..1;"));
        Check.due("6: without a text", -1, game.items(0));
        game = explored(GAME);
        Check.due("6: vars", 2, game.items(0));
        Check.due("6: consts and formulas", 2, game.items(1));
        Check.due("6: commands", 4, game.items(2));
        Check.due("6: others", -1, game.items(3));
        Check.due("6: others", -1, game.items(-1));
        Check.due("6: others", -1, game.items(Integer.MIN_VALUE));
    }

    private static void promise7() {
        GameText game = new GameText();
        Check.dueTrue("7: no text", exploreThrows(game));
        Check.due("7: compile", 1, Check.compile(game, "?"));
        Check.dueTrue("7: still no text", exploreThrows(game));
        Check.due("7: compile", 0, Check.compile(game, "var x:0..1; target false; max x=0->1:(x'=1); max x=1->1:(x'=2);"));
        Check.due("7: explore", 12, game.explore());
        Check.due("7: then there are none", 0, game.states());
        Check.due("7: no kind", -1, game.kind(0));
        Check.dueTrue("7: no var", variableThrows(game, 0, 0));
        Check.due("7: again", 12, game.explore());
        Check.due("7: compile", 0, Check.compile(game, GAME));
        Check.due("7: explore", 0, game.explore());
        Check.due("7: states", 3, game.states());
        Check.due("7: explore again", 0, game.explore());
        Check.due("7: the same states", 3, game.states());
        Check.due("7: compile", 0, Check.compile(game, GAME));
        Check.due("7: a text with a fault behind it", 2, Check.compile(game, "var y: 5..6; formula g = y; target h;"));
        Check.due("7: the text that stayed is explored", 0, game.explore());
        Check.due("7: it has its states", 3, game.states());
        Check.due("7: and its vars", 2, game.variable(2, 0));
    }

    private static void promise8() {
        GameText game = new GameText();
        exploreThrows(game);
        Check.due("8: before any", -1, game.state());
        Check.compile(game, "var x:0..1; target false; max x=0->1:(x'=1); max x=1->1:(x'=2);");
        Check.due("8: before any", -1, game.state());
        Check.due("8: explore", 12, game.explore());
        Check.due("8: the state", 1, game.state());
        Check.due("8: compile", 0, Check.compile(game, GAME));
        Check.due("8: whatever was compiled since", 1, game.state());
        Check.due("8: compile", 1, Check.compile(game, "?"));
        Check.due("8: whatever was compiled since", 1, game.state());
        Check.due("8: explore", 0, game.explore());
        Check.due("8: it had none", -1, game.state());
    }

    private static void promise9() {
        GameText game = new GameText();
        Check.due("9: before any", 0, game.states());
        Check.due("9: compile", 0, Check.compile(game, GAME));
        Check.due("9: not explored", 0, game.states());
        game.explore();
        Check.due("9: three", 3, game.states());
    }

    private static void promise10() {
        GameText game = explored(GAME);
        int[][] due = {{0, 1}, {1, 1}, {2, 0}};
        for (int k = 0; k < 3; k++) {
            Check.due("10: x in " + k, due[k][0], game.variable(k, 0));
            Check.due("10: b in " + k, due[k][1], game.variable(k, 1));
        }
        Check.dueTrue("10: no such state", variableThrows(game, 3, 0));
        Check.dueTrue("10: no such state", variableThrows(game, -1, 0));
        Check.dueTrue("10: no such state", variableThrows(game, Integer.MAX_VALUE, 0));
        Check.dueTrue("10: no such state", variableThrows(game, Integer.MIN_VALUE, 0));
        Check.dueTrue("10: no such var", variableThrows(game, 0, 2));
        Check.dueTrue("10: no such var", variableThrows(game, 0, -1));
        Check.dueTrue("10: no such var", variableThrows(game, 0, Integer.MAX_VALUE));
        Check.dueTrue("10: a text without vars", variableThrows(explored("target true;"), 0, 0));
        game = explored("var x: -999999999 .. -999990000 init -999990000; target true;");
        Check.due("10: below 0", -999990000, game.variable(0, 0));
    }

    private static void promise11() {
        GameText game = explored(GAME);
        Check.due("11: max's", 1, game.kind(0));
        Check.due("11: min's", 2, game.kind(1));
        Check.due("11: a target", 3, game.kind(2));
        Check.due("11: none", -1, game.kind(3));
        Check.due("11: none", -1, game.kind(-1));
        Check.due("11: none", -1, game.kind(Integer.MAX_VALUE));
        Check.due("11: an end", 0, explored("target false; max false -> 1: stay;").kind(0));
        Check.due("11: a target, whatever is enabled", 3, explored("target true; max 1/0=1 -> 2: stay;").kind(0));
    }

    private static void promise12() {
        GameText game = explored(GAME);
        Check.due("12: two", 2, game.commands(0));
        Check.due("12: one", 1, game.commands(1));
        Check.due("12: a target", 0, game.commands(2));
        Check.due("12: none such", -1, game.commands(3));
        Check.due("12: none such", -1, game.commands(-1));
        Check.due("12: none such", -1, game.commands(Integer.MAX_VALUE));
        Check.due("12: none such", -1, new GameText().commands(0));
    }

    private static void promise13() {
        GameText game = explored(GAME);
        Check.due("13: the first of state 0", 1, game.command(0, 0));
        Check.due("13: the second of state 0", 3, game.command(0, 1));
        Check.due("13: that of state 1", 0, game.command(1, 0));
        int[][] none = {{0, 2}, {0, -1}, {1, 1}, {2, 0}, {3, 0}, {-1, 0}, {0, Integer.MAX_VALUE}, {Integer.MIN_VALUE, 0}};
        for (int[] at : none) {
            Check.due("13: none " + at[0] + " " + at[1], -1, game.command(at[0], at[1]));
        }
    }

    private static void promise14() {
        GameText game = explored(GAME);
        Check.due("14: two", 2, game.branches(0, 0));
        Check.due("14: two, of four", 2, game.branches(0, 1));
        Check.due("14: one", 1, game.branches(1, 0));
        int[][] none = {{0, 2}, {0, -1}, {1, 1}, {2, 0}, {3, 0}, {-1, 0}, {0, Integer.MAX_VALUE}, {Integer.MIN_VALUE, 0}};
        for (int[] at : none) {
            Check.due("14: none " + at[0] + " " + at[1], -1, game.branches(at[0], at[1]));
        }
    }

    private static void promise15() {
        GameText game = explored(GAME);
        int[][] due = {{0, 0, 0, 1, 1, 2}, {0, 0, 1, 0, 1, 2}, {0, 1, 0, 1, 2, 3}, {0, 1, 1, 0, 1, 3}, {1, 0, 0, 2, 1, 1}};
        for (int[] row : due) {
            for (int what = 0; what < 3; what++) {
                Check.due("15: " + row[0] + " " + row[1] + " " + row[2] + " " + what, row[3 + what],
                    game.branch(row[0], row[1], row[2], what));
            }
        }
        int[][] none = {{0, 0, 2, 0}, {0, 0, -1, 0}, {0, 2, 0, 0}, {0, -1, 0, 0}, {2, 0, 0, 0}, {3, 0, 0, 0}, {-1, 0, 0, 0},
            {0, 0, 0, 3}, {0, 0, 0, -1}, {0, 0, Integer.MAX_VALUE, 0}, {0, 0, 0, Integer.MIN_VALUE}};
        for (int[] at : none) {
            Check.due("15: none", -1, game.branch(at[0], at[1], at[2], at[3]));
        }
        Check.due("15: none before exploring", -1, new GameText().branch(0, 0, 0, 0));
    }

    /** What stood on the tape before, or behind an end(), must not be read. */
    private static void nothingIsLeft() {
        String[][] cut = {{"const a = 1", "1111111111"}, {"const a = b", "bbbbbbbbbb"}, {"const a = 1 -", ">>"},
            {"const a = 1 <", "=1;"}, {"const a = 1 >", "=1;"}, {"const a = ", "1;"}, {"const a = !", "=1;"}, {"#", "\n@"},
            {"const a = 1 # ", ";"}};
        for (String[] parts : cut) {
            GameText game = new GameText();
            String behind = parts[1] + Check.times(" ", 20 - (parts[0].length() + parts[1].length()) % 20);
            String all = parts[0] + behind;
            Check.feed(game, all);
            int more = all.length() - parts[0].length();
            for (; more > 20; more -= 20) {
                game.end(0);
            }
            Check.due("cut to " + parts[0], parts[0].length(), game.end(20 - more));
            int due = parts[0].equals("#") ? 10 : 1;
            Check.due("compile of " + parts[0], due, game.compile());
            Check.due("place of " + parts[0], parts[0].length(), game.place());
        }
        GameText game = new GameText();
        StringBuilder formulas = new StringBuilder("target true;");
        for (int i = 0; i < 60; i++) {
            formulas.append("formula f").append(i).append("=").append(i == 0 ? "1/4" : "f" + (i - 1)).append(";");
        }
        for (int i = 0; i < 5; i++) {
            Check.due("60 formulas again", 0, Check.compile(game, formulas.toString()));
            Check.due("60 formulas again", 60, game.items(1));
            Check.due("another text", 0, Check.compile(game, "var a: 2..9; var b: 0..1; formula f = a + b; target f = 3;"
                + "max f < 3 -> 1/f: stay + 1 - 1/f: (b' = 1);"));
            Check.due("they are explored", 0, game.explore());
            Check.due("they are two", 2, game.states());
            Check.due("a text with a fault", 2, Check.compile(game, formulas + "max f60 -> 1: stay;"));
            Check.due("its states are as before", 2, game.states());
        }
    }

    private static void readmeExample() {
        GameText game = new GameText();
        game.feed(0x76617220, 0x783a2030, 0x2e2e313b, 0x74617267, 0x65742078);
        game.feed(0x3d313b6d, 0x61782074, 0x7275652d, 0x3e312f32, 0x3a287827);
        game.feed(0x3d31292b, 0x312f323a, 0x73746179, 0x3b202020, 0x20202020);
        Check.due("README: end", 53, game.end(13));
        Check.due("README: compile", 0, game.compile());
        Check.due("README: explore", 0, game.explore());
        Check.due("README: states", 2, game.states());
        Check.due("README: kind", 1, game.kind(0));
        Check.due("README: branch", 1, game.branch(0, 0, 0, 1));
    }

    public static void main(String[] args) {
        promise1();
        promise2();
        promise3();
        promise4();
        promise5();
        promise6();
        promise7();
        promise8();
        promise9();
        promise10();
        promise11();
        promise12();
        promise13();
        promise14();
        promise15();
        nothingIsLeft();
        readmeExample();
        Check.finish("CallsTest");
    }
}
