/**
 * Each sentence on the faults of explore() (Terms 4) and on states (Terms 5) that names a boundary, with what lies
 * just inside and just outside of it ('@': the fault's place). Check.says has the sentence, in the document's words
 * and in its order.
 */
public final class BoundsOfStatesTest {
    private static final String X = "var x:-1..3;var b:bool;target false;";

    private BoundsOfStatesTest() {
    }

    private static GameText finds(String text, int states) {
        GameText game = Check.explores(text, 0, 0);
        Check.due("states() of " + text, states, game.states());
        return game;
    }

    /** What a state is: its kind, its commands, and the values of its vars. */
    private static void state(GameText game, int k, int kind, int commands, int... values) {
        Check.due("kind(" + k + ")", kind, game.kind(k));
        Check.due("commands(" + k + ")", commands, game.commands(k));
        for (int v = 0; v < values.length; v++) {
            Check.due("variable(" + k + ", " + v + ")", values[v], game.variable(k, v));
        }
    }

    private static void branch(GameText game, int k, int i, int j, int... due) {
        for (int what = 0; what < due.length; what++) {
            Check.due("branch(" + k + ", " + i + ", " + j + ", " + what + ")", due[what], game.branch(k, i, j, what));
        }
    }

    // ---- 4 faults of explore()

    private static void numbers() {
        Check.says("Of explore(), place and state told: 6, 7, 8 as above");
        for (String wrong : new String[] {"6:999999999@+y", "7:1@/(y-1)", "7:1@%(y-1)", "7:1@%(y-2)", "8:1@%(y/2)", "8:y/2@%0"}) {
            int fault = wrong.charAt(0) - '0';
            String rule = wrong.substring(2);
            String plain = rule.replace("@", "");
            String y = "var y:0..9 init 1;var z:0..9;";
            Check.compiles(y + "target " + plain + "=1;max " + plain + "=1->" + plain + ":(z'=" + plain + ");", 0);
            Check.explores(y + "target " + rule + "=1;", fault, 0);
            Check.explores(y + "target false;max " + rule + "=1->1:stay;", fault, 0);
            Check.explores(y + "target false;max true->" + rule + ":stay;", fault, 0);
            Check.explores(y + "target false;max true->1:(z'=" + rule + ");", fault, 0);
            Check.explores(y + "formula f=" + rule + ";target f=1;", fault, 0);
            Check.explores(y + "formula f=" + rule + ";formula g=f+1;target false;max g=1->1:stay;", fault, 0);
            Check.explores(y + "target z=3&" + rule + "=1;max true->1:(z'=z+1);", fault, 3);
        }
    }

    private static void chances() {
        Check.says("11 CHANCE: what is in front of ':' is below 0 or above 1 (at its first word, as soon as it is worked out)");
        Check.explores(X + "max true->0:stay+1:stay;", 0, 0);
        Check.explores(X + "max true->@-1/999999999:stay+1:stay;", 11, 0);
        Check.explores(X + "max true->1:stay+@(0-1):stay+1:stay;", 11, 0);
        Check.explores(X + "max true->@999999999/999999998:stay;", 11, 0);
        Check.explores(X + "max true->999999998/999999999:stay+1/999999999:stay;", 0, 0);
        Check.explores(X + "max true->@2:stay+1/0:stay;", 11, 0);
        Check.explores(X + "max true->1@/0:stay+2:stay;", 7, 0);
        Check.explores(X + "max x=3->@x:stay;max x<3->1:(x'=x+1);", 11, 4);
        Check.says("or a command's together are not 1 (at max or min)");
        Check.explores(X + "@max true->0:stay;", 11, 0);
        Check.explores(X + "@min true->0:stay+0:stay;", 11, 0);
        Check.explores(X + "@max true->1/2:stay;", 11, 0);
        Check.explores(X + "@max true->1/3:stay+1/3:stay+1/4:stay;", 11, 0);
        Check.explores(X + "@min true->1:stay+1/9:stay;", 11, 0);
        Check.explores(X + "@max true->999999998/999999999:stay;", 11, 0);
        Check.explores(X + "@max true->1:stay+1/999999999:stay;", 11, 0);
        Check.explores(X + "@max true->1:stay" + Check.times("+1:stay", 7) + ";", 11, 0);
        Check.explores(X + "max true->1/8:stay" + Check.times("+1/8:stay", 7) + ";", 0, 0);
        Check.explores(X + "max false->1/2:stay;", 0, 0);
        Check.explores(X + "max true->1:stay;@max true->1/2:stay;", 11, 0);
    }

    private static void sets() {
        Check.says("12 OVER: a set's number is not whole (8 then) or not in the var's range (at its '(' in both cases)");
        Check.explores(X + "max true->1:(x'=-1);", 0, 0);
        Check.explores(X + "max true->1: @( x'=-2);", 12, 0);
        Check.explores(X + "max true->1:(x'=3);", 0, 0);
        Check.explores(X + "max true->1: @( x'=4);", 12, 0);
        Check.explores(X + "max true->1:@(x'=-999999999);", 12, 0);
        Check.explores(X + "max true->1:@(x'=999999999);", 12, 0);
        Check.explores(X + "max true->1:@(x'=1/2);", 8, 0);
        Check.explores(X + "max true->1:@(x'=99/2);", 8, 0);
        Check.explores(X + "max true->1:@(x'=-3/2);", 8, 0);
        Check.explores(X + "max true->1:(x'=6/2);", 0, 0);
        Check.explores(X + "max true->1:(x'=1@/0);", 7, 0);
        Check.explores(X + "max true->1:(b'=true)&@(x'=9);", 12, 0);
        Check.explores(X + "max true->1:@(x'=9)&(b'=1/0=1);", 12, 0);
        Check.explores(X + "max true->1/2:stay+1/2:@(x'=x+1);", 12, 4);
    }

    private static void twelveSets() {
        StringBuilder vars = new StringBuilder();
        StringBuilder sets = new StringBuilder();
        int[] due = new int[12];
        for (int v = 0; v < 12; v++) {
            vars.append("var v").append(v).append(":0..20;");
            // Each set has the value of the var behind it, as it was before.
            sets.append(v == 0 ? "" : "&").append("@(v").append(v).append("'=v").append((v + 1) % 12).append("+").append(v).append(")");
            due[v] = v;
        }
        Check.says("then, for each branch .., its sets, from the left");
        String text = vars + "target v11=11;max true->1:" + sets.toString().replace("@", "") + ";";
        state(finds(text, 2), 1, 3, 0, due);
        for (int v = 0; v < 12; v++) {
            String over = "(v" + v + "'=21)";
            String marked = sets.toString().replace("@(v" + v + "'=v" + (v + 1) % 12 + "+" + v + ")", "#" + over);
            Check.explores(vars + "target false;max true->1:" + marked.replace("@", "").replace("#", "@") + ";", 12, 0);
        }
    }

    private static void mixed() {
        Check.says("13 MIXED: a command of the other player is enabled already (at max or min)");
        Check.explores(X + "max true->1:stay;@min true->1:stay;", 13, 0);
        Check.explores(X + "min true->1:stay;@max true->1:stay;", 13, 0);
        Check.explores(X + "min true->1:stay;min true->1:stay;@max true->1:stay;min true->1:stay;", 13, 0);
        Check.explores(X + "max true->1:stay;min false->1:stay;max true->1:stay;", 0, 0);
        Check.explores(X + "max x=-1->1:(x'=2);min x=2->1:stay;@max x=2->1:stay;", 13, 1);
        Check.says("if that is true, it is ENABLED (MIXED is told now), all its chances are worked out");
        Check.explores(X + "max true->1:stay;@min true->1/0:stay;", 13, 0);
        Check.explores(X + "max true->1:stay;min 1@/0=1->1:stay;", 7, 0);
        Check.explores(X + "max true->@2:stay;min true->1:stay;", 11, 0);
    }

    private static String line(int last) {
        return "var x:0..9999;var y:0..1;target x=" + last + ";";
    }

    private static void manyStates() {
        Check.says("5 MANY: the 513th state (at the branch's first word)");
        GameText game = finds(line(511) + "max true->1:(x'=x+1);", 512);
        state(game, 511, 3, 0, 511, 0);
        state(game, 510, 1, 1, 510, 0);
        branch(game, 510, 0, 0, 511, 1, 1);
        Check.explores(line(512) + "max true->@1:(x'=x+1);", 5, 511);
        Check.explores(line(512) + "max true->1/2:stay+ @(1)/2:(x'=x+1);", 5, 511);
        Check.explores(line(9999) + "max true->1/2:(x'=2*x+1)+@1/2:(x'=2*x+2);", 5, 255);
        Check.explores(line(9999) + "max true->1/2:(x'=2*x+1)+@1/2:(x'=2*x+2);min x=300->1:stay;", 5, 255);
        // All 512 numbers are given, and known states are met again.
        finds("var x:0..511;target false;max true->1/2:(x'=(x+1)%512)+1/2:(x'=(x+511)%512);", 512);
        finds("var x:0..7;var y:0..7;var z:-4..3;target false;"
            + "min true->1/3:(x'=(x+1)%8)+1/3:(y'=(y+1)%8)+1/3:(z'=(z+5)%8-4);", 512);
        Check.explores("var x:0..7;var y:0..7;var z:-4..3;var b:bool;target false;"
            + "min true->1/3:(x'=(x+1)%8)+1/3:(y'=(y+1)%8)+1/3:(z'=(z+5)%8-4);min x+y+z=17->@1:(b'=true);", 5, 511);
    }

    private static String eight(String last) {
        StringBuilder made = new StringBuilder("max true->");
        for (int i = 1; i <= 8; i++) {
            made.append(i == 1 ? "" : "+").append("1/8:(x'=").append(i == 8 ? last : "(x+" + i + ")%512").append(")");
        }
        return made.append(";").toString();
    }

    private static void manyBranches() {
        String x = "var x:0..600;target false;";
        String full = x + eight("(x+8)%512");
        Check.says("or the 4097th branch (at max or min; what is joined to another one is none)");
        GameText game = finds(full, 512);
        int last = game.variable(511, 0);
        int branches = 0;
        for (int k = 0; k < 512; k++) {
            branches += game.branches(k, 0);
        }
        Check.due("all branches", 4096, branches);
        Check.explores(full + " @max x=" + last + "->1:stay;", 5, 511);
        Check.explores(full + " @max x=" + last + "->1:(x'=(x+1)%512);", 5, 511);
        Check.explores(full + " @max x=" + last + "->0:(x'=999)+1/2:stay+1/2:(x'=1);", 5, 511);
        Check.explores(full + " max x=" + last + "->1:@(x'=999);", 12, 511);
        // The branch is counted behind the state that it leads to.
        Check.explores(full + " max x=" + last + "->0:stay+ @1:(x'=600);", 5, 511);
        // With one joined in each state there is room for 512 more, the last of them with another one joined to it.
        String joined = x + eight("(x+7)%512");
        game = finds(joined + "max true->1/2:stay+1/4:stay+1/4:stay;", 512);
        Check.due("branches(511, 0)", 7, game.branches(511, 0));
        branch(game, 511, 1, 0, 511, 1, 1);
        last = game.variable(511, 0);
        Check.explores(joined + "max true->1:stay; @max x=" + last + "->1:stay;", 5, 511);
        Check.explores(joined + "max true->1/2:stay+1/2:stay; @max x=" + last + "->1:stay;", 5, 511);
        // Nine in each state: 455 states have 4095 of them, and the next one's first command brings the 4097th.
        Check.explores(joined.replace("max", "@max") + "max true->1/2:stay+1/2:(x'=(x+1)%512);", 5, 455);
    }

    private static void multiples() {
        Check.says("6 also when the least common multiple of what a command's chances have below is 1000000000 or more (at max or min)");
        // 999999999 = 27 * 37037037, 1000000000 = 512 * 1953125.
        Check.explores(X + "max true->1/27:stay+1/37037037:stay+37037036/37037037-1/27:stay;", 0, 0);
        Check.explores(X + "@max true->1/512:stay+1/1953125:stay;", 6, 0);
        Check.explores(X + "@min true->1/31623:stay+1/31624:stay;", 6, 0);
        Check.explores(X + "@max true->1/999999999:stay+1/999999998:stay;", 6, 0);
        Check.explores(X + "@max true->1/999999999:stay+1/2:stay;", 6, 0);
        Check.explores(X + "@max true->1/999999999:stay+1/3:stay+0/2:stay;", 11, 0);
        Check.explores(X + "@max true->1/997:stay+1/991:stay+1/983:stay+1/2:stay;", 6, 0);
        Check.explores(X + "@max true->1/997:stay+1/991:stay+1/983:stay;", 11, 0);
        Check.says("then the multiple (6) and the sum (11) are looked at; then, for each branch whose chance is not 0, its sets");
        Check.explores(X + "@max true->1/31623:(x'=9)+1/31624:stay;", 6, 0);
        Check.explores(X + "@max true->1/2:(x'=9);", 11, 0);
        Check.explores(X + "max true->1/2:(x'=9)+1@/0:stay;", 7, 0);
        Check.explores(X + "max true->1/31623:(x'=9)+1/31624:stay+@2:stay;", 11, 0);
        Check.explores(X + "max true->0:(x'=9)&(b'=1/0=1)+1:stay;", 0, 0);
        Check.explores(X + "max true->1/2-1/2:(x'=9)+1:@(x'=8);", 12, 0);
    }

    // ---- 5 states

    private static void targets() {
        Check.says("State 0 has the inits.");
        state(finds("var x:-1..3 init 2;var b:bool init true;var y:4..9;target true;", 1), 0, 3, 0, 2, 1, 4);
        state(finds("target false;", 1), 0, 0, 0);
        Check.says("A TARGET state is one where the target is true: none of its commands is looked at.");
        state(finds("target true;max 1/0=1->1:stay;min true->7:stay;max true->1:stay;", 1), 0, 3, 0);
        state(finds("var x:0..3;target x=1;max true->1:(x'=x+1);max x=1->7:stay;", 2), 1, 3, 0, 1);
        Check.says("Commands of max make it MAX'S state, those of min MIN'S; without enabled ones it is an END.");
        state(finds(X + "max true->1:stay;max true->1:stay;", 1), 0, 1, 2, -1, 0);
        state(finds(X + "min true->1:stay;min false->1:stay;", 1), 0, 2, 1, -1, 0);
        state(finds(X + "min false->1:stay;max false->1:stay;", 1), 0, 0, 0, -1, 0);
    }

    private static void numbered() {
        Check.says("where it leads to is a state that is known, or the next number");
        GameText game = finds("var x:0..9 init 5;var b:bool;target x=9;"
            + "max x=5&!b->1/4:(x'=7)+1/4:(x'=3)+1/4:(b'=true)+1/4:(x'=7);max x=5&!b->1/2:(x'=3)+1/2:(x'=8);"
            + "min x=3->1:(x'=9);min x=7->1:(x'=9)&(b'=true);max x=8->1:(x'=5);", 7);
        int[][] values = {{5, 0}, {7, 0}, {3, 0}, {5, 1}, {8, 0}, {9, 1}, {9, 0}};
        int[] kinds = {1, 2, 2, 0, 1, 3, 3};
        int[] commands = {2, 1, 1, 0, 1, 0, 0};
        for (int k = 0; k < 7 && k < game.states(); k++) {
            state(game, k, kinds[k], commands[k], values[k]);
        }
        Check.says("Branches of one command that lead to the same state are one, with both chances, where the first one stands.");
        int[][] branches = {{0, 0, 0, 1, 1, 2}, {0, 0, 1, 2, 1, 4}, {0, 0, 2, 3, 1, 4}, {0, 0, 3, -1, -1, -1}, {0, 1, 0, 2, 1, 2},
            {0, 1, 1, 4, 1, 2}, {0, 1, 2, -1, -1, -1}, {1, 0, 0, 5, 1, 1}, {2, 0, 0, 6, 1, 1}, {4, 0, 0, 0, 1, 1}};
        for (int[] row : branches) {
            branch(game, row[0], row[1], row[2], row[3], row[4], row[5]);
        }
        game = finds(X + "max true->1/999999999:stay+999999997/999999999:(x'=x)+1/999999999:(b'=false)&(x'=-1);", 1);
        branch(game, 0, 0, 0, 0, 1, 1);
        game = finds("var x:0..1;target x=1;max true->1/6:stay+1/3:(x'=1)+0:stay+1/6:(x'=0)+1/3:(x'=x+1);", 2);
        branch(game, 0, 0, 0, 0, 1, 3);
        branch(game, 0, 0, 1, 1, 2, 3);
        Check.due("branches(0, 0)", 2, game.branches(0, 0));
    }

    private static void valuesBefore() {
        Check.says("its sets, from the left, by the values that are there before");
        GameText game = finds("var x:0..9 init 1;var y:0..9 init 2;var z:0..9 init 3;formula s=x+y+z;target x=2;"
            + "max x=1->1:(x'=y)&(y'=z)&(z'=s);", 2);
        state(game, 1, 3, 0, 2, 3, 6);
        Check.says("a formula has in each state the value of its rule, worked out when it is met there first");
        game = finds("var x:0..4;formula f=x*x;formula g=f+f;target g=32;max g<32->f/9:(x'=4)+1-f/9:(x'=x+1);", 5);
        int[][] branches = {{0, 0, 0, 1, 1, 1}, {1, 0, 0, 2, 1, 9}, {1, 0, 1, 3, 8, 9}, {3, 0, 0, 2, 4, 9}, {3, 0, 1, 4, 5, 9},
            {4, 0, 0, 2, 1, 1}};
        for (int[] row : branches) {
            branch(game, row[0], row[1], row[2], row[3], row[4], row[5]);
        }
        for (int first = 0; first < 4; first++) {
            // Met in no state before this one.
            String met = "x=" + first + "&f=x+5";
            game = finds("var x:0..9;formula f=x+5;target " + met + ";max x<6->1:(x'=x+1);", first + 1);
            state(game, first, 3, 0, first);
            Check.explores("var x:0..9;formula f=x@/0;target " + met + ";max x<6->1:(x'=x+1);", 7, first);
        }
        Check.explores("var x:0..9;formula f=1@/(x-3);target f=1&false;max true->1:(x'=x+1);", 7, 3);
        Check.explores("var x:0..9;formula f=1/(x-3);target x=4;max x=3|f<1->1:(x'=x+1);", 0, 0);
        Check.explores("var x:0..9;formula f=1@/(x-3);target x=4;max f<1|x=3->1:(x'=x+1);", 7, 3);
    }

    /** One object, text behind text: what one leaves behind must not reach the next. */
    private static void textBehindText() {
        Check.says("States are gone when it is 0.");
        GameText game = new GameText();
        for (int i = 1; i <= 6; i++) {
            Check.due("compile()", 0, Check.compile(game, "formula f=" + i + ";formula g=f*2;target g=" + 2 * i + ";"));
            Check.due("explore()", 0, game.explore());
            Check.due("kind(0) of text " + i, 3, game.kind(0));
        }
        String[] texts = {"var a:0..9;var b:0..9 init 3;var c:0..9 init 5;target c=9;max true->1/2:(a'=c)&(b'=a)+1/2:(c'=9);",
            "var a:0..9;target a=3;max true->1/2:(a'=a+1)+1/2:(a'=0);", "target false;max true->1:stay;",
            "var a:0..9;var b:0..9;target a=b&a=2;max a<2->1:(a'=a+1);max b<2->1:(b'=b+1);"};
        int[] states = {6, 4, 1, 9};
        for (int i = 0; i < 12; i++) {
            int which = i % 3 == 2 ? 3 - i % 4 : i % 4;
            Check.due("compile()", 0, Check.compile(game, texts[which]));
            Check.due("explore() of " + texts[which], 0, game.explore());
            Check.due("states() of " + texts[which], states[which], game.states());
        }
    }

    public static void main(String[] args) {
        numbers();
        chances();
        sets();
        twelveSets();
        mixed();
        manyStates();
        manyBranches();
        multiples();
        targets();
        numbered();
        valuesBefore();
        textBehindText();
        Check.finish("BoundsOfStatesTest");
    }
}
