/** The document's terms, 1 to 5: words, grammar, numbers, names, faults and states, with their edges ('@': the place). */
public final class TextsTest {
    private static final String T = "target true;";

    private TextsTest() {
    }

    private static String many(String before, String after, int n) {
        StringBuilder all = new StringBuilder();
        for (int i = 0; i < n; i++) {
            all.append(before).append(i).append(after);
        }
        return all.toString();
    }

    private static void words() {
        Check.compiles("@", 10);
        Check.compiles("   # only a note@", 10);
        Check.compiles("\t\r\n target#note\n true # note\n\n;#the end", 0);
        Check.compiles("#target true;\r@", 10);
        Check.compiles("target true; @\f", 1);
        Check.compiles("target true; @\u0000", 1);
        Check.compiles("target true; @\u00e9", 1);
        Check.compiles("target true@.;", 1);
        Check.compiles("const @_a = 1;", 1);
        Check.compiles("const a_1 = 1; const A_1 = 2; const a__ = 3;" + T, 0);
        Check.compiles("const A = 1; const Z = A; const a = Z; const z = a; const A0Z9az_ = z;" + T, 0);
        for (char c : new char[] {'@', '[', '`', '{', '"', '$', '.', '\\', '^', '~', '}', ']'}) {
            Check.due("no word: " + c, 1, Check.compile(new GameText(), T + c));
            Check.due("no word in a name: " + c, 1, Check.compile(new GameText(), "const a" + c + "b=1;" + T));
        }
        Check.compiles("const abcdefghijabcdefghijabcdefghijabcdefghij = 1;" + T, 0);
        Check.compiles("const @abcdefghijabcdefghijabcdefghijabcdefghijk = 1;" + T, 1);
        Check.compiles("const a = 999999999; const b = 000000001;" + T, 0);
        Check.compiles("const a = @1000000000;" + T, 1);
        Check.compiles("const a = @0000000001;" + T, 1);
        Check.compiles("const a = 12@bc;" + T, 1);
        Check.compiles("const @true = 1;", 1);
        Check.compiles("const @least = 1;", 1);
        Check.compiles("const True = 1; const Max = 2; const stays = 3; const consts = 4;" + T, 0);
        Check.compiles("const a = 1 <= 2; const b = 1 < @= 2;", 1);
        Check.compiles("const a = 3 - @> 2;", 1);
        Check.compiles("const a = ! @= 2;", 1);
        Check.compiles("var x : 1..@. 2;", 1);
        Check.compiles("var x : 1..2;" + T, 0);
        Check.compiles("var x : 1@. .2;", 1);
    }

    private static void grammar() {
        Check.compiles("@true;", 1);
        Check.compiles("const a@", 1);
        Check.compiles("const a = @", 1);
        Check.compiles("const a = 1@", 1);
        Check.compiles("const a = @;", 1);
        Check.compiles("const a @: 1;", 1);
        Check.compiles("const a = 1 @1;", 1);
        Check.compiles("const a = (1@;", 1);
        Check.compiles("const a = 1@);", 1);
        Check.compiles("const a = 1 @, 2;", 1);
        Check.compiles("const a = 1 @: 2;", 1);
        Check.compiles("const a = true ? 1@;", 1);
        Check.compiles("const a = true ? (1 @: 2);", 1);
        Check.compiles("const a = least @1;", 1);
        Check.compiles("const a = least(@);", 1);
        Check.compiles("const a = least(1,@);", 1);
        Check.compiles("const a = (1@, 2);", 1);
        Check.compiles("const a = 1 < 2 @< 3;", 1);
        Check.compiles("const a = 1 = 2 @!= true;", 1);
        Check.compiles("const a = !1 = 2 @= true;", 1);
        Check.compiles("const a = (1 < 2) = true & 2 >= 1;" + T, 0);
        Check.compiles("const a = 1 = @!true;", 1);
        Check.compiles("const a = -@!true;", 1);
        Check.compiles("const a = 1 + @!true;", 1);
        Check.compiles("const a = !!true | !false & !(true);" + T, 0);
        Check.compiles("const a = 1 - -2 * - - 3;" + T, 0);
        Check.compiles("const a = 1 + @+ 2;", 1);
        Check.compiles("const a = 1 @.. 2;", 1);
        Check.compiles("const a = 1 @-> 2;", 1);
        Check.compiles("var x: @;", 1);
        Check.compiles("var x: bool @..;", 1);
        Check.compiles("var x: 1 @;", 1);
        Check.compiles("var x: 1 @init 1;", 1);
        Check.compiles("var x: 1..2 init 1 @init 1;", 1);
        Check.compiles("var x: 1..2 @..;", 1);
        Check.compiles("target true @-> 1: stay;", 1);
        Check.compiles("max true @;", 1);
        Check.compiles("max true -> @;", 1);
        Check.compiles("max true -> 1 @;", 1);
        Check.compiles("max true -> 1: @1;", 1);
        Check.compiles("max true -> 1: stay @& stay;", 1);
        Check.compiles("max true -> 1: stay + @;", 1);
        Check.compiles("max true -> true @? 1 : 0 : stay;", 1);
        Check.compiles("max true -> (true ? 1 : 0) : stay;" + T, 0);
        Check.compiles("max true ? true : false -> 1 : stay;" + T, 0);
        Check.compiles("max true -> 1: (@true' = 1);", 1);
        Check.compiles("max true -> 1: (x @= 1);", 1);
        Check.compiles("max true -> 1: (x' @1);", 1);
        Check.compiles("max true -> 1: (x' = 1@;", 1);
        Check.compiles("max true -> 1: (x' = 1) & @stay;", 1);
        Check.compiles("max true -> 1: (x' = 1) @| (y' = 1);", 1);
        Check.compiles("max true -> 1: (x' = 1) @(y' = 1);", 1);
    }

    private static void depth() {
        String open = Check.times("(", 40);
        String close = Check.times(")", 40);
        Check.compiles("const a = " + open + "1" + close + ";" + T, 0);
        Check.compiles("const a = " + open + "@(1" + close + ");" + T, 1);
        Check.compiles("const a = " + open + "@-1" + close + ";" + T, 1);
        Check.compiles("const a = " + open + "@!true" + close + ";" + T, 1);
        Check.compiles("const a = " + open + "true @? 1 : 2" + close + ";" + T, 1);
        Check.compiles("const a = " + open + "least @(1)" + close + ";" + T, 1);
        Check.compiles("const a = " + Check.times("-", 40) + "1 - 2 * (3);" + T, 0);
        Check.compiles("const a = " + Check.times("-", 40) + "@-1;" + T, 1);
        Check.compiles("const a = " + Check.times("!", 40) + "true & (!true);" + T, 0);
        Check.compiles("const a = " + Check.times("!", 40) + "@!true;" + T, 1);
        Check.compiles("const a = " + Check.times("!", 40) + "1 = @(1);" + T, 1);
        Check.compiles("const a = " + Check.times("!", 40) + "true ? 1 : 2;" + T, 0);
        Check.compiles("const a = " + Check.times("true ? 1 : ", 40) + "2;" + T, 0);
        Check.compiles("const a = " + Check.times("true ? 1 : ", 40) + "true @? 1 : 2;" + T, 1);
        Check.compiles("const a = " + Check.times("true ? ", 40) + "1" + Check.times(" : 2", 40) + ";" + T, 0);
        String chosen = Check.times("true ? (true ? 1 : 1) : ", 38);
        Check.compiles("const a = " + chosen + "- -2;" + T, 0);
        Check.compiles("const a = " + chosen + "- -@-2;" + T, 1);
        Check.compiles("const a = " + chosen + "true ? (true @? 1 : 1) : 1;" + T, 1);
        Check.compiles("const a = " + Check.times("least(", 40) + "1" + Check.times(",2)", 40) + ";" + T, 0);
        Check.compiles("const a = " + Check.times("(1)+", 100) + Check.times("-1+", 100) + "1;" + T, 0);
        String set = "var x:0..1;" + T + "max true->1:(x'=";
        Check.compiles(set + Check.times("(", 39) + "1" + Check.times(")", 39) + ");", 0);
        Check.compiles(set + Check.times("(", 39) + "@(1" + Check.times(")", 40) + ");", 1);
    }

    private static void names() {
        Check.compiles("const a = @a;" + T, 2);
        Check.compiles("const a = 1; const @a = 2;" + T, 2);
        Check.compiles("const a = 1; var @a: bool;" + T, 2);
        Check.compiles("var a: bool; formula @a = 1;" + T, 2);
        Check.compiles("formula a = 1; const @a = b;" + T, 2);
        Check.compiles("formula a = @b; const b = 1;" + T, 2);
        Check.compiles("formula a = 1; const b = @a;" + T, 2);
        Check.compiles("var a: 0..1; const b = @a;" + T, 2);
        Check.compiles("var a: 0..1; var b: @a..2;" + T, 2);
        Check.compiles("var a: 0..1; var b: 0..@a;" + T, 2);
        Check.compiles("formula a = 1; var b: 0..1 init @a;" + T, 2);
        Check.compiles("var b: bool init @b;" + T, 2);
        Check.compiles("const a = 1; var b: a..a+1 init a; formula c = a + b; formula d = c;" + T, 0);
        Check.compiles("max true -> 1: (@x' = 1); var x: 0..1;" + T, 2);
        Check.compiles("const x = 1; max true -> 1: (@x' = 1);" + T, 2);
        Check.compiles("formula x = 1; max true -> 1: (@x' = 1);" + T, 2);
        Check.compiles("var x: 0..1; const X = 1; max true -> 1: (@X' = 1);" + T, 2);
        // A fault of the grammar behind it is told first.
        Check.compiles("const a = b; const c = @;", 1);
        Check.compiles("const a = 1/0; const c = 1 @1;", 1);
    }

    private static void kinds() {
        for (String sign : new String[] {"+", "-", "*", "/", "%", "<", "<=", ">", ">="}) {
            Check.compiles("const a = 1 @" + sign + " true;" + T, 3);
            Check.compiles("const a = true @" + sign + " 1;" + T, 3);
            Check.compiles("const a = true @" + sign + " true;" + T, 3);
        }
        for (String sign : new String[] {"&", "|"}) {
            Check.compiles("const a = 1 @" + sign + " true;" + T, 3);
            Check.compiles("const a = true @" + sign + " 1;" + T, 3);
            Check.compiles("const a = 1 @" + sign + " 1;" + T, 3);
        }
        for (String sign : new String[] {"=", "!="}) {
            Check.compiles("const a = 1 @" + sign + " true;" + T, 3);
            Check.compiles("const a = true @" + sign + " 1;" + T, 3);
            Check.compiles("const a = true " + sign + " false;" + T, 0);
        }
        Check.compiles("const a = @-true;" + T, 3);
        Check.compiles("const a = @!1;" + T, 3);
        Check.compiles("const a = 1 @? 1 : 1;" + T, 3);
        Check.compiles("const a = true @? 1 : true;" + T, 3);
        Check.compiles("const a = true @? true : 1;" + T, 3);
        Check.compiles("const a = true ? true : 1 < 2;" + T, 0);
        Check.compiles("const a = @least(true);" + T, 3);
        Check.compiles("const a = @most(1, 2, true);" + T, 3);
        Check.compiles("const a = @most(true, 2, 3);" + T, 3);
        Check.compiles("const a = most(true, @-true);" + T, 3);
        Check.compiles("const a = most(true, @b);" + T, 2);
        Check.compiles("const a = 1 ? @b : 2;" + T, 2);
        Check.compiles("const a = true + @b;" + T, 2);
        Check.compiles("const a = false & 1 @+ true;" + T, 3);
        Check.compiles("const a = true @+ 1 * 2;" + T, 3);
        Check.compiles("target @1;", 3);
        Check.compiles("target @(1 + 2) * 3;", 3);
        Check.compiles("var x: @true..2;" + T, 3);
        Check.compiles("var x: 1..@(true);" + T, 3);
        Check.compiles("var x: @true..b;" + T, 3);
        Check.compiles("var x: 1..2 init @true;" + T, 3);
        Check.compiles("var x: bool init @1;" + T, 3);
        Check.compiles("max @1 -> 1: stay;" + T, 3);
        Check.compiles("max @1 -> b: stay;" + T, 3);
        Check.compiles("max true -> @true: stay;" + T, 3);
        Check.compiles("max true -> @true & 1 = 1: (x' = 1);" + T, 3);
        Check.compiles("var x: 0..1; max true -> 1: (x' = @true);" + T, 3);
        Check.compiles("var x: bool; max true -> 1: (x' = @1);" + T, 3);
        Check.compiles("var x: bool; formula f = x; formula g = f; const c = true; target x & f & g & c;", 0);
        Check.compiles("var x: bool; formula f = x; target f @+ 1 = 2;", 3);
    }

    private static void twice() {
        Check.compiles("target true; @target true;", 4);
        Check.compiles("target true; @target b;", 4);
        Check.compiles("var x: 0..1; max true -> 1: (x' = 1) & (@x' = 1);" + T, 4);
        Check.compiles("var x: 0..1; max true -> 1: (x' = 1) & (@x' = b);" + T, 4);
        Check.compiles("var x: 0..1; var y: bool; max true -> 1: (x' = 1) & (y' = true) & (@x' = 1);" + T, 4);
        Check.compiles("var x: 0..1; var y: bool; max true -> 1: (y' = true) & (x' = 1) & (@x' = 1);" + T, 4);
        Check.compiles("var x: 0..1; max true -> 1: (x' = 1) + 0: (x' = 1);" + T, 0);
    }

    private static void many() {
        Check.compiles(many("var v", ":bool;", 12) + T, 0);
        Check.compiles(many("var v", ":bool;", 12) + "@var v0:bool;" + T, 5);
        Check.compiles(many("var v", ":bool;", 12) + "@var v12:bool;" + T, 5);
        Check.compiles(many("const c", "=1;", 60) + T, 0);
        Check.compiles(many("const c", "=1;", 60) + "@const c0=b;" + T, 5);
        Check.compiles(many("const c", "=1;", 30) + many("formula f", "=1;", 30) + T, 0);
        Check.compiles(many("const c", "=1;", 30) + many("formula f", "=1;", 30) + "@formula g=1;" + T, 5);
        Check.compiles(many("const c", "=1;", 59) + many("formula f", "=1;", 1) + "@const g=1;" + T, 5);
        Check.compiles(Check.times("max true->1:stay;", 60) + T, 0);
        Check.compiles(Check.times("max true->1:stay;", 60) + "@min b->1:stay;" + T, 5);
        Check.compiles("max true->1:stay" + Check.times("+0:stay", 7) + ";" + T, 0);
        Check.compiles("max true->1:stay" + Check.times("+0:stay", 7) + "+@b:stay;" + T, 5);
        GameText game = new GameText();
        Check.due("compile", 0, Check.compile(game, many("var v", ":bool;", 12) + many("const c", "=1;", 60) + T
            + Check.times("max true->1:stay;", 60)));
        Check.due("12 vars", 12, game.items(0));
        Check.due("60 consts and formulas", 60, game.items(1));
        Check.due("60 commands", 60, game.items(2));
    }

    private static void workedOut() {
        Check.compiles("const a = 999999999 @+ 1;" + T, 6);
        Check.compiles("const a = -999999999 @- 1;" + T, 6);
        Check.compiles("const a = 99999 @* 99999;" + T, 6);
        Check.compiles("const a = 1/99999@/99999;" + T, 6);
        Check.compiles("const a = 1/31623 @* (1/31623);" + T, 6);
        Check.compiles("const a = 31250 @* 32000;" + T, 6);
        Check.compiles("const a = -31250 @* 32000;" + T, 6);
        Check.compiles("const a = 1/31250 @/ 32000;" + T, 6);
        Check.compiles("const a = 31622 * 31622; const b = 1/31622/31622;" + T, 0);
        Check.compiles("const a = 999999999 / 999999999 * 999999999;" + T, 0);
        Check.compiles("const a = 999999998 * (1/999999998);" + T, 0);
        Check.compiles("const a = 1 @/ 0;" + T, 7);
        Check.compiles("const a = 1 @/ (1/2 - 1/2);" + T, 7);
        Check.compiles("const a = 1 @% 0;" + T, 7);
        Check.compiles("const a = 1 @% -3;" + T, 7);
        Check.compiles("const a = 1/2 @% 0;" + T, 8);
        Check.compiles("const a = 1 @% (1/2);" + T, 8);
        Check.compiles("const a = 4/2 % (6/3);" + T, 0);
        Check.compiles("const a = false & 1/0 = 1; const b = true | 1/0 = 1;" + T, 0);
        Check.compiles("const a = true & 1@/0 = 1;" + T, 7);
        Check.compiles("const a = false | 1@/0 = 1;" + T, 7);
        Check.compiles("const a = true ? 1 : 1/0; const b = false ? 1/0 : 1;" + T, 0);
        Check.compiles("const a = false ? 1 : 1@/0;" + T, 7);
        Check.compiles("const a = least(1, 2, 3@/0);" + T, 7);
        Check.compiles("formula a = 1/0;" + T, 0);
        // All words of the item are looked at first, but not those of the next one.
        Check.compiles("var x: 1/0..2 init @b;" + T, 2);
        Check.compiles("const a = 1@/0; const a = 1;" + T, 7);
        Check.compiles("var x: @1/2..1/0;" + T, 8);
        Check.compiles("var x: 1..@1/2 init 1/0;" + T, 8);
        Check.compiles("var x: 2..@1 init 1/0;" + T, 9);
        Check.compiles("var x: 1..1;" + T, 0);
        Check.compiles("var x: 1..10000;" + T, 0);
        Check.compiles("var x: 1..@10001;" + T, 9);
        Check.compiles("var x: -999999999..@999999999;" + T, 9);
        Check.compiles("var x: 1..5 init @1/2;" + T, 8);
        Check.compiles("var x: 1..5 init @0;" + T, 9);
        Check.compiles("var x: 1..5 init @(6);" + T, 9);
        Check.compiles("var x: 1..5 init 10/2;" + T, 0);
        Check.compiles("var x: bool init 1@/0 = 1;" + T, 7);
        Check.compiles("var x: bool; @", 10);
    }

    /** What a rule of numbers is, seen as a var's init. */
    private static void number(String rule, int due) {
        GameText game = Check.explores("const third = 1/3; var x: -5000..4999 init " + rule + "; target true;", 0, 0);
        Check.due(rule, due, game.variable(0, 0));
    }

    private static void truth(String rule, boolean due) {
        GameText game = Check.explores("var x: bool init " + rule + "; target true;", 0, 0);
        Check.due(rule, due ? 1 : 0, game.variable(0, 0));
    }

    private static void values() {
        number("2 + 3 * 4", 14);
        number("10 - 3 - 2", 5);
        number("100 / 5 / 2", 10);
        number("2 * 7 % 5", 4);
        number("-7 % 5", 3);
        number("-(7 % 5)", -2);
        number("- -7", 7);
        number("7 % 7", 0);
        number("third * 3", 1);
        number("1/2 + third + 1/6", 1);
        number("(1/2) / (-1/4)", -2);
        number("least(3, -1/2 - 1/2, 2)", -1);
        number("most(3, 1/2, 7, 6)", 7);
        number("least(5)", 5);
        number("true ? 1 : true ? 2 : 3", 1);
        number("false ? 1 : false ? 2 : 3", 3);
        number("true ? false ? 1 : 2 : 3", 2);
        truth("1/3 < 1/2", true);
        truth("-1/2 < -1/3", true);
        truth("1/2 <= 2/4", true);
        truth("1/2 >= 2/4 & 1/2 = 2/4", true);
        truth("1/2 > 2/4 | 1/2 != 2/4", false);
        truth("!1 = 2", true);
        truth("!true | true", true);
        truth("true | true & false", true);
        truth("(true = false) = false", true);
        truth("true != false", true);
        truth("false", false);
        Check.due("a bool's init", 0, Check.explores("var x: bool; target true;", 0, 0).variable(0, 0));
        Check.due("a range's init", -3, Check.explores("var x: -3..3; target true;", 0, 0).variable(0, 0));
    }

    private static void exploredFaults() {
        Check.explores("target 1@/0 = 1;", 7, 0);
        Check.explores("formula f = 1@/0; target f = 1;", 7, 0);
        Check.explores("formula f = 1/0; formula g = f; target false & g = 1;", 0, 0);
        Check.explores("var x: 0..3; formula f = 6@/(2-x); target f = 9; max true -> 1: (x' = x + 1);", 7, 2);
        Check.explores("target false; max 1@%0 = 1 -> 2: stay;", 7, 0);
        Check.explores("target false; max true -> 999999999@*2: stay;", 6, 0);
        Check.explores("target false; max true -> 1/2: stay + @3/2: stay;", 11, 0);
        Check.explores("target false; max true -> @-1: stay + 3: stay;", 11, 0);
        Check.explores("target false; max true -> @3/2: stay + 1/0: stay;", 11, 0);
        Check.explores("target false; @max true -> 1/2: stay + 1/3: stay;", 11, 0);
        Check.explores("target false; @max true -> 0: stay;", 11, 0);
        Check.explores("target false; @min true -> 1: stay + 1: stay;", 11, 0);
        Check.explores("target false; @max true -> 1/31627: stay + 1/31643: stay;", 6, 0);
        Check.explores("target false; @max true -> 1/31627: stay + 1 - 1/31627: stay + 1/31643: stay;", 6, 0);
        Check.explores("target false; @max true -> 1/512: stay + 1/1953125: stay;", 6, 0);
        Check.explores("target false; max true -> 1/999999999: stay + 999999998/999999999: stay;", 0, 0);
        String x = "var x: 0..3; var b: bool; target false; ";
        Check.explores(x + "max true -> 1: @(x' = 1/2);", 8, 0);
        Check.explores(x + "max true -> 1: @(x' = -1);", 12, 0);
        Check.explores(x + "max true -> 1: @(x' = x + 1);", 12, 3);
        Check.explores(x + "max true -> 1: (b' = true) & @(x' = 4);", 12, 0);
        Check.explores(x + "max true -> 1: (b' = 1@/0 = 1) & (x' = 4);", 7, 0);
        Check.explores(x + "max true -> 0: (x' = 1/0) + 1: stay;", 0, 0);
        Check.explores(x + "max true -> 1: stay; @min true -> 2: stay;", 13, 0);
        Check.explores(x + "min true -> 1: stay; max false -> 2: stay; @max true -> 2: stay;", 13, 0);
        Check.explores(x + "min x < 1 -> 1: (x' = x + 1); max x >= 1 -> 1: stay;", 0, 0);
        Check.explores(x + "max true -> 1: stay; @min x = 1 -> 1: stay; max x = 0 -> 1: (x' = 1);", 13, 1);
    }

    private static void exploredMany() {
        String line = "var x: 0..9999; target x = ";
        GameText game = Check.explores(line + "511; max true -> 1: (x' = x + 1);", 0, 0);
        Check.due("512 states", 512, game.states());
        Check.due("the last one", 511, game.variable(511, 0));
        Check.due("its kind", 3, game.kind(511));
        Check.explores(line + "512; max true -> 0: stay + @1: (x' = x + 1);", 5, 511);
        // 512 states of eight branches each are 4096.
        StringBuilder eight = new StringBuilder("max true -> 1/8: (x' = (x + 1) % 512)");
        for (int i = 2; i <= 8; i++) {
            eight.append(" + 1/8: (x' = (x + ").append(i).append(") % 512)");
        }
        eight.append(";");
        game = Check.explores("var x: 0..511; target false; " + eight, 0, 0);
        Check.due("512 states", 512, game.states());
        Check.due("eight branches of the last one", 8, game.branches(511, 0));
        Check.due("where the last one leads", game.variable(game.branch(511, 0, 7, 0), 0), (game.variable(511, 0) + 8) % 512);
        Check.explores("var x: 0..511; target false; @" + eight + " max x = 0 -> 1: stay;", 5, 511);
        String last = " max x = " + game.variable(511, 0) + " -> 1/2: stay + 1/2: stay;";
        Check.explores("var x: 0..511; target false; " + eight + last.replace("max", "@max"), 5, 511);
        // What is joined is none: seven branches and a joined one leave room for 512 more.
        String joined = eight.toString().replace("x + 8", "x + 7");
        game = Check.explores("var x: 0..511; target false; " + joined + " max true -> 1/2: stay + 1/2: stay;", 0, 0);
        Check.due("two commands", 2, game.commands(511));
        Check.due("seven branches", 7, game.branches(511, 0));
        Check.due("two eighths above", 1, game.branch(511, 0, 6, 1));
        Check.due("two eighths below", 4, game.branch(511, 0, 6, 2));
        Check.due("one branch", 1, game.branches(511, 1));
        Check.due("its chance", 1, game.branch(511, 1, 0, 2));
    }

    // Sets see the values that are there before; states get their numbers as branches meet them.
    private static void swaps() {
        GameText game = Check.explores("var x: 0..4 init 1; var y: 0..4 init 2; formula s = x + y; target false;\n"
            + "max s = 3 & x = 1 -> 1/2: (x' = y) & (y' = x) + 1/3: (y' = s) + 1/6: (x' = y) & (y' = s - y);\n"
            + "max s = 3 & x = 1 -> 1: (x' = 0);", 0, 0);
        int[][] due = {{1, 2}, {2, 1}, {1, 3}, {0, 2}};
        Check.due("states", due.length, game.states());
        for (int k = 0; k < due.length; k++) {
            Check.due("x of " + k, due[k][0], game.variable(k, 0));
            Check.due("y of " + k, due[k][1], game.variable(k, 1));
        }
        Check.due("joined above", 2, game.branch(0, 0, 0, 1));
        Check.due("joined below", 3, game.branch(0, 0, 0, 2));
        Check.due("leads to", 3, game.branch(0, 1, 0, 0));
        Check.due("an end", 0, game.kind(3));
    }

    private static void formulasOnce() {
        // Each formula has the one before it twice: worked out anew each time this would never end.
        StringBuilder text = new StringBuilder("var x: 0..3; formula f0 = x / 4;");
        for (int i = 1; i < 60; i++) {
            text.append("formula f").append(i).append("=(f").append(i - 1).append("+f").append(i - 1).append(")/2;");
        }
        text.append("target f59 = 3/4; max f59 < 3/4 -> f59: stay + 1 - f59: (x' = x + 1);");
        GameText game = Check.explores(text.toString(), 0, 0);
        Check.due("states", 4, game.states());
        Check.due("a chance of 0 is no branch", 1, game.branches(0, 0));
        Check.due("it stays", 2, game.branch(2, 0, 0, 0));
        Check.due("above", 1, game.branch(2, 0, 0, 1));
        Check.due("below", 2, game.branch(2, 0, 0, 2));
    }

    public static void main(String[] args) {
        words();
        grammar();
        depth();
        names();
        kinds();
        twice();
        many();
        workedOut();
        values();
        exploredFaults();
        exploredMany();
        swaps();
        formulasOnce();
        Check.finish("TextsTest");
    }
}
