/**
 * Each sentence of the document's Terms 1 and 2 that names a boundary, with what lies just inside and just outside
 * of it ('@': the fault's place). Check.says has the sentence, in the document's words and in its order.
 */
public final class BoundsOfWordsTest {
    private static final String T = "target true;";
    private static final int BLANKS = 0x20202020;
    private static final String NAME_OF_40 = "Abcdefghi_abcdefghi_abcdefghi_abcdefghi9";
    private static final String[] KEYS =
        "const var bool formula max min init stay target true false least most".split(" ");

    private BoundsOfWordsTest() {
    }

    private static boolean isBlank(int c) {
        return c == 9 || c == 10 || c == 13 || c == 32;
    }

    private static void tape() {
        Check.says("THE TAPE has at most 16384 characters.");
        GameText game = new GameText();
        for (int i = 0; i < 819; i++) {
            game.feed(BLANKS, BLANKS, BLANKS, BLANKS, BLANKS);
        }
        game.end(4);
        Check.due("feed() up to the bound", 16384, game.feed(BLANKS, BLANKS, BLANKS, BLANKS, BLANKS));
        Check.due("feed() beyond it", -1, game.feed(BLANKS, BLANKS, BLANKS, BLANKS, BLANKS));
        Check.says("An object is used for at most 512 calls after it has been made");
        game = new GameText();
        for (int i = 1; i <= 507; i++) {
            // A note of twenty characters.
            Check.due("call " + i, 20 * i, game.feed(0x23232323, 0x23232323, 0x23232323, 0x23232323, 0x2323230a));
        }
        Check.due("call 508", 10160, game.feed(0x74617267, 0x65742074, 0x7275653b, BLANKS, BLANKS));
        Check.due("call 509", 0, game.compile());
        Check.due("call 510", 0, game.explore());
        Check.due("call 511", 3, game.kind(0));
        Check.due("call 512", 1, game.states());
    }

    /** A character between "target" and "true;": the fault that is due. */
    private static int faultWith(int c) {
        if (isBlank(c) || c == '!') {
            return 0;
        }
        return c == '-' ? 3 : 1;
    }

    private static int placeWith(int c) {
        boolean isInName = c >= 'a' && c <= 'z' || c >= 'A' && c <= 'Z' || c >= '0' && c <= '9' || c == '_';
        if (faultWith(c) == 0) {
            return -1;
        }
        if (isInName) {
            return 0;
        }
        // A note reaches to the end; behind '(' the ';' is what can't stand.
        return c == '#' ? 12 : c == '(' ? 11 : 6;
    }

    private static void blanks() {
        Check.says("Blanks are 9, 10, 13, 32");
        for (int c = 0; c < 256; c++) {
            GameText game = new GameText();
            Check.due("compile() with " + c, faultWith(c), Check.compile(game, "target" + (char) c + "true;"));
            Check.due("place() with " + c, placeWith(c), game.place());
            // No single character begins an item, so each that is no blank is refused where it stands.
            boolean isNothing = isBlank(c) || c == '#';
            Check.due("compile() with " + c + " behind", isNothing ? 0 : 1, Check.compile(game, T + (char) c));
            Check.due("place() with " + c + " behind", isNothing ? -1 : 12, game.place());
            Check.due("compile() with " + c + " before", c == '#' ? 10 : isBlank(c) ? 0 : 1, Check.compile(game, (char) c + T));
            Check.due("place() with " + c + " before", c == '#' ? 13 : isBlank(c) ? -1 : 0, game.place());
        }
        Check.says("'#' and all up to the next 10 (or the end) are as a blank.");
        Check.compiles("#\ntarget true;", 0);
        Check.compiles("target true;#", 0);
        Check.compiles("target true;#\n", 0);
        Check.compiles("target#;\n#;\n#\n true;", 0);
        Check.compiles("# # \ntarget true;", 0);
        Check.compiles("target true#;@", 1);
        Check.compiles("target true#\r;\t; @", 1);
        Check.compiles("target true#\u0000\u00ff$1234567890;\n;", 0);
        Check.compiles("const a#\n@b=1;", 1);
        Check.compiles("target 1<#\n@=2;", 1);
        Check.compiles("target 1#\n@1=1;", 1);
        Check.compiles("#@", 10);
    }

    private static void names() {
        Check.says("a NAME: a letter .. and letters, digits, '_' behind it, 40 at most (a longer one is no word)");
        Check.compiles("const " + NAME_OF_40 + "=1;target " + NAME_OF_40 + "=1;", 0);
        Check.compiles("const @" + NAME_OF_40 + "0=1;" + T, 1);
        Check.compiles("var @" + NAME_OF_40 + "_:bool;" + T, 1);
        Check.compiles("formula @" + NAME_OF_40 + "a=1;" + T, 1);
        Check.compiles("target @" + NAME_OF_40 + "A=1;", 1);
        Check.compiles("var " + NAME_OF_40 + ":0..1;" + T + "max true->1:(" + NAME_OF_40 + "'=1);", 0);
        Check.compiles("var x:0..1;" + T + "max true->1:(@" + NAME_OF_40 + "x'=1);", 1);
        Check.compiles("var x:0..@" + NAME_OF_40 + Check.times("z", 300) + ";", 1);
        Check.compiles("@target" + Check.times("_", 35) + " true;", 1);
        // Names that are alike up to their last character, or but for their length.
        String alike = NAME_OF_40.substring(0, 39);
        Check.compiles("const " + alike + "8=1;const " + alike + "=2;target " + alike + "8=1&" + alike + "=2;", 0);
        Check.compiles("const " + alike + "8=1;target @" + alike + "=1;", 2);
        Check.compiles("const " + alike + "8=1;target @" + NAME_OF_40 + "=1;", 2);
        Check.compiles("const a=1;const z=2;const A=3;const Z=4;const b0=5;const b9_=6;" + T, 0);
        Check.compiles("const @_a=1;", 1);
        Check.compiles("const @9a=1;", 1);
        Check.says("A is another one than a");
        Check.compiles("const a=1;const A=2;const aA=3;const Aa=4;target a=1&A=2&aA=3&Aa=4;", 0);
        Check.compiles("const a=1;target @A=1;", 2);
    }

    private static void numbers() {
        Check.says("a NUMBER: digits, at most 9 (more are no word)");
        holds("999999999>999999998&000000000=0&000000012=12&0=00&123456789-123456788=1");
        Check.compiles("target @1000000000=0;", 1);
        Check.compiles("target @0000000000=0;", 1);
        Check.compiles("target @4294967297=1;", 1);
        Check.compiles("target 1=@" + Check.times("9", 300) + ";", 1);
        Check.compiles("var x:0..@0000000001;", 1);
    }

    private static void keys() {
        Check.says("These are words of their own, no names");
        for (String key : KEYS) {
            Check.compiles("const @" + key + "=1;", 1);
            Check.compiles("formula @" + key + "=1;", 1);
            Check.compiles("var @" + key + ":bool;", 1);
            Check.compiles("max true->1:(@" + key + "'=1);", 1);
            Check.compiles("const " + key + "s=1;const x" + key + "=2;const " + key + "_=3;const " + key + "0=4;" + T, 0);
            Check.compiles("const " + key.toUpperCase() + "=1;const " + key.substring(1) + "=2;" + T, 0);
            Check.compiles("const " + key.substring(0, key.length() - 1) + "=1;" + T, 0);
        }
    }

    private static void signs() {
        Check.says("WORDS are as long as can be");
        Check.compiles("var x:0..1;target x>=0&x<=1&x!=2&-1<x;max x>-1->1:stay;", 0);
        Check.compiles("target 1< @=2;", 1);
        Check.compiles("target 1> @=2;", 1);
        Check.compiles("target 1@! =2;", 1);
        Check.compiles("max true- @>1:stay;", 1);
        Check.compiles("var x:0@. .1;", 1);
        Check.compiles("var x:0..@.1;", 1);
        Check.compiles("var x:0@.1;", 1);
        Check.compiles("target 1!=@=2;", 1);
        Check.compiles("target 1<=@=2;", 1);
        Check.compiles("target 1=@>2;", 1);
        Check.compiles("target 1=@<2;", 1);
        Check.compiles("target 1<@>2;", 1);
        Check.compiles("target @!=true;", 1);
        Check.compiles("target 1--1=2&1<-2;", 0);
        Check.compiles("target 1-@->2;", 1);
        Check.compiles("target true&@&true;", 1);
        Check.compiles("target true|@|true;", 1);
        Check.compiles("target true@.", 1);
        Check.compiles("const a12=1;target a12=12@a;", 1);
    }

    private static void holds(String truth) {
        Check.due("the kind of a state where " + truth, 3, Check.explores("target " + truth + ";", 0, 0).kind(0));
    }

    private static void grouped() {
        Check.says("Operations of one line are grouped from the left.");
        holds("9-4-3=2&9-4+3=8&64/4/2=8&64/4*2=32&7*5%4=3&7%5*4=8&17%12%3=2&2-3*4-5=-15");
        holds("!(true&false|true&false)&(true|true&false)&(false|true&true)");
        holds("-2*3=-6&-7%4=1&- -3=3&2- -3=5&-(7%4)=-3&!1=2&!(!(1=1)=true)");
        holds("(true?1:2)=1&(false?1:2)=2&(true?false?1:2:3)=2&(true?true?1:2:3)=1&(false?1:true?2:3)=2");
    }

    private static void depth() {
        Check.says("each open '(', each '!', each '-' of \"sign\" .., each '?' .. is one level;"
            + " the word that would begin the 41st can't stand.");
        String[] heads = {"const a=", "formula a=", "target ", "var x:", "var x:0..", "var x:0..1 init ", "var x:bool init ",
            "max ", "min true->", "max true->1:stay+", "max true->1:(x'=", "max true->1:(x'=1)&(x'="};
        for (String head : heads) {
            // A set's own '(' is a level too.
            int room = head.endsWith("'=") ? 39 : 40;
            for (String open : new String[] {"(", "-", "least(", "most(1,", "1+(", "1*(", "1=1&1|(", "1|1&1=1+1*("}) {
                refusesMore(head + Check.times(open, room));
            }
            Check.compiles(head + Check.times("(", room) + "1@?1", 1);
            refusesMore(head + Check.times("(-", room / 2) + Check.times("(", room % 2));
            refusesMore(head + Check.times("(!", room / 2) + Check.times("(", room % 2));
            refusesMore(head + Check.times("(1?-", room / 3) + Check.times("-", room % 3));
            refusesMore(head + "(" + Check.times("!", room - 1));
            refusesMore(head + "(" + Check.times("1?", room - 1));
            refusesMore(head + "(" + Check.times("1?1:", room - 1));
            refusesMore(head + "(1?(1?-1:(!1))=1:-(1)*(1)|!1&!1?1:" + Check.times("(", room - 3));
        }
    }

    /** Behind these no level may begin, but all that needs none may stand. */
    private static void refusesMore(String open) {
        Check.compiles(open + "@", 1);
        Check.compiles(open + "@(1", 1);
        Check.compiles(open + "@-1", 1);
        Check.compiles(open + "@!1", 1);
        Check.compiles(open + "least@(1", 1);
        Check.compiles(open + "most@(1", 1);
        Check.compiles(open + "1+1*x/true%1-false@", 1);
        Check.compiles(open + "x@", 1);
    }

    private static void depthEnds() {
        String open = Check.times("(", 39);
        String close = Check.times(")", 39) + ";";
        Check.says("(until what it belongs to is over)");
        Check.compiles("target " + open + "(1)=1&!true|-1=1-(1)*(1)&(true)" + close, 0);
        Check.compiles("target " + open + "(1)=1&!true|-1=1-(1)*(1)&!@(true)" + close, 1);
        Check.compiles("target " + open + "-1+(1)=-1*-1" + close, 0);
        Check.compiles("target " + open + "-1+-@-1=1" + close, 1);
        Check.compiles("target " + open + "!true&!false|!true" + close, 0);
        Check.compiles("target " + open + "!true&!@!false" + close, 1);
        Check.compiles("target " + open + "!1=1&-1=1" + close, 0);
        Check.compiles("target " + open + "!1=@-1" + close, 1);
        Check.compiles("target " + open + "!1+1*1=1-@(1)" + close, 1);
        Check.compiles("target " + open + "!1=1?true:false" + close, 0);
        Check.compiles("target " + open + "least(1,2)=most(1)+least(2)" + close, 0);
        Check.compiles("target " + open + "least(1,@-2)=1" + close, 1);
        Check.says("each '?' (until its rule is over)");
        Check.compiles("target " + open + "true?true:true" + close, 0);
        Check.compiles("target " + open + "true?@(true):true" + close, 1);
        Check.compiles("target " + open + "true?true:@!true" + close, 1);
        Check.compiles("target " + open + "true?true:true@?true:true" + close, 1);
        Check.compiles("target " + open + "true?true@?true:true:true" + close, 1);
        String asks = Check.times("true?1:", 39);
        Check.compiles("target 0=least(" + asks + "2," + asks + "2);", 0);
        Check.compiles("target 0=least(" + asks + "2," + asks + "true@?1:2);", 1);
        Check.says("each open '('");
        String deepest = Check.times("(", 40) + "1" + Check.times(")", 40);
        String minus = Check.times("-", 40) + "1";
        String nots = Check.times("!", 40) + "true";
        String chosen = Check.times("true?1:", 40) + "1";
        String set = Check.times("(", 39) + "1" + Check.times(")", 39);
        String all = "const c=" + deepest + ";formula f=" + chosen + ";var x:" + deepest + ".." + minus + " init " + chosen
            + ";var b:bool init " + nots + ";target " + nots + ";max " + nots + "->" + deepest + "*" + deepest
            + ":(x'=" + set + "*" + set + ")&(b'=" + Check.times("!", 39) + "true)+" + minus + "-1:stay;";
        Check.compiles(all, 0);
        Check.compiles(all + "min true->1:(x'=1)&(b'=" + Check.times("!", 39) + "@!true);", 1);
    }

    public static void main(String[] args) {
        tape();
        blanks();
        names();
        numbers();
        keys();
        signs();
        grouped();
        depth();
        depthEnds();
        Check.finish("BoundsOfWordsTest");
    }
}
