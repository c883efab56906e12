/**
 * Each sentence of the document's Terms 3 and of the faults of compile() in Terms 4 that names a boundary, with what
 * lies just inside and just outside of it ('@': the fault's place). Check.says has the sentence, in the document's
 * words and in its order.
 */
public final class BoundsOfItemsTest {
    private static final String T = "target true;";
    private static final String MOST = "999999999";

    private BoundsOfItemsTest() {
    }

    /** A target: it holds in the only state. */
    private static void holds(String truth) {
        Check.due("the kind of a state where " + truth, 3, Check.explores("target " + truth + ";", 0, 0).kind(0));
    }

    /** A rule of a number, worked out in each item that works out numbers ('@': the fault's place). */
    private static void works(String rule, int fault) {
        Check.compiles("const a=" + rule + ";" + T, fault);
        Check.compiles("const a=" + rule + "=1;" + T, fault);
        Check.compiles("var b:bool init 1<" + rule + ";" + T, fault);
        Check.compiles("var x:0.." + rule + "-(" + rule.replace("@", "") + ");" + T, fault);
        Check.compiles("formula f=" + rule.replace("@", "") + ";" + T, 0);
        Check.explores("formula f=" + rule + ";target f!=f;", fault, 0);
    }

    private static void worksTruth(String rule, int fault) {
        Check.compiles("const a=" + rule + ";" + T, fault);
        Check.compiles("var b:bool init " + rule + ";" + T, fault);
        Check.explores("target !(" + rule + ");", fault, 0);
    }

    // ---- 3 numbers and names

    private static void sums() {
        Check.says("in least terms both parts are below 1000000000 in size");
        works("999999998+1", 0);
        works("999999999@+1", 6);
        works("-999999998-1", 0);
        works("-999999999@-1", 6);
        works("999999999@- -1", 6);
        works("-999999999@+-1", 6);
        works("500000000+499999999", 0);
        works("500000000@+500000000", 6);
        works("-500000000@-500000000", 6);
        works("999999999/2+999999999/2", 0);
        works("999999999/2+999999999/2@+1", 6);
        works("1/31622+1/31623", 0);
        works("1/31623@+1/31624", 6);
        works("1/31622-1/31623", 0);
        works("1/31623@-1/31624", 6);
        works("1/2+1/499999999", 0);
        works("1/2@+1/500000001", 6);
        works("999999999@+999999999", 6);
        works("-999999999@-999999999", 6);
        works("1/999999999@+1/999999998", 6);
        works("999999999/999999998@+999999998/999999997", 6);
    }

    private static void products() {
        works("31622*31622+49115", 0);
        works("31622*31622@+49116", 6);
        works("31623*31622", 0);
        works("31623@*31623", 6);
        works("-31623@*31623", 6);
        works("-31623@*-31623", 6);
        works("333333333*3", 0);
        works("500000000@*2", 6);
        works("999999999@*999999999", 6);
        works("1/999999999", 0);
        works("1/-999999999", 0);
        works("1/333333333/3", 0);
        works("1/500000000@/2", 6);
        works("1/500000000@/-2", 6);
        works("1/500000000@*(1/2)", 6);
        works("1/999999999@/999999999", 6);
        works("999999999@/(1/999999999)", 6);
        works("999999999@/(-1/2)", 6);
        works("333333333/(1/3)", 0);
        works("999999998/999999999*(999999999/999999998)", 0);
        works("999999999/999999998/(999999999/999999998)", 0);
        Check.says("in least terms");
        holds("999999999/999999998*999999998=999999999&1/999999999*999999999=1&2/4=1/2&-2/-4=1/2&2/-4=-1/2");
        holds("999999998/999999999*(999999999/999999998)=1&999999999/999999998/(999999999/999999998)=1");
        holds("1/999999999-1/999999999=0&0/999999999=0&-0=0&0/-5=0&1/3+1/3+1/3=1");
        holds("-(1/2)=0-1/2&-(1/2)*2=-1&-(-1/3)=1/3&- -(2/3)=2/3&-least(1/2,1/3)=-1/3&-999999999=0-999999999");
        Check.says("a WHOLE one has 1 below");
        holds("6/3%2=0&(1/2+1/2)%1=0&9%(4/2)=1");
        Check.says("7 ZERO: divided by 0");
        works("1@/0", 7);
        works("0@/0", 7);
        works("-1@/-0", 7);
        works("1@/(1/3-1/3)", 7);
        works("999999999@/(0/5)", 7);
        works("0/1", 0);
    }

    private static void rests() {
        Check.says("a % b, both whole, b above 0: what is left, 0 .. b - 1");
        holds("0%1=0&5%1=0&-5%1=0&0%7=0&6%7=6&7%7=0&8%7=1&-1%7=6&-6%7=1&-7%7=0&-8%7=6");
        holds(MOST + "%" + MOST + "=0&999999998%" + MOST + "=999999998&-1%" + MOST + "=999999998&-" + MOST + "%2=1");
        works("5@%0", 7);
        works("5@%-1", 7);
        works("5@%-7", 7);
        works("0@%0", 7);
        works("5%1", 0);
        works("1/2@%2", 8);
        works("5@%(1/2)", 8);
        works("5@%(-1/2)", 8);
        Check.says("8 WHOLE: not whole where it must be (of %, before 7");
        works("1/2@%0", 8);
        works("1/2@%-1", 8);
    }

    private static void wanted() {
        Check.says("a & b: b is worked out only if a is true; a | b only if a is false");
        worksTruth("false&1/0=1", 0);
        worksTruth("true&1@/0=1", 7);
        worksTruth("true|1/0=1", 0);
        worksTruth("false|1@/0=1", 7);
        worksTruth("false&1/0=1|2@%0=1", 7);
        worksTruth("true|1/0=1&true", 0);
        worksTruth("false&1/0=1&2/0=1|true|3/0=1|4/0=1", 0);
        worksTruth("true&(false|1@/0=1)", 7);
        Check.says("a ? b : c only the one that is wanted");
        works("(true?1:1/0)", 0);
        works("(true?1@/0:1)", 7);
        works("(false?1/0:1)", 0);
        works("(false?1:1@/0)", 7);
        works("(1@/0=1?1:2/0)", 7);
        worksTruth("true?true:1/0=1", 0);
        worksTruth("false?1/0=1:true?true:2/0=1", 0);
        Check.says("least, most: of numbers (all are worked out)");
        works("least(0,1@/0)", 7);
        works("most(1@/0,2/0)", 7);
        works("most(1,2,3@%0,1/0)", 7);
        holds("least(3)=3&most(-3)=-3&least(1/2,1/3)=1/3&most(1/3,1/2)=1/2&least(2,1,3)=1&most(2,3,1)=3&least(1,1)=1");
        holds("least(3,2,1)=1&most(1,2,3)=3&most(-1,-2)=-1&least(-1,-2)=-2&least(-1/3,-1/2,0)=-1/2");
        Check.says("= and != compare numbers, or truths; < <= > >= numbers.");
        holds("1=1&!1=2&1!=2&!1!=1&true=true&!(true=false)&true!=false&!(false!=false)");
        holds("1<2&!2<2&!3<2&1<=2&2<=2&!3<=2&!1>2&!2>2&3>2&!1>=2&2>=2&3>=2");
        holds("1/3<1/2&-1/2<-1/3&!1/2<2/4&1/2<=2/4&999999998/999999999<1&999999999/999999998>1");
        holds("1/999999999>0&-1/999999999<0&999999997/999999998<999999998/999999999");
    }

    private static void known() {
        Check.says("A NAME is known from the ';' of its item on");
        Check.compiles("const a=@a;" + T, 2);
        Check.compiles("formula a=@a;" + T, 2);
        Check.compiles("var a:@a..1;" + T, 2);
        Check.compiles("var a:0..@a;" + T, 2);
        Check.compiles("var a:0..1 init @a;" + T, 2);
        Check.compiles("var a:bool init @a;" + T, 2);
        Check.compiles("const a=1;const b=a;formula c=a+b;var d:a..b;target a+b+c+d=9;max d=c->d:(d'=d);", 0);
        Check.compiles("target @a=1;const a=1;", 2);
        Check.compiles("max @a->1:stay;var a:bool;" + T, 2);
        Check.compiles("max true->@a:stay;formula a=1;" + T, 2);
        Check.compiles("max true->1:(@a'=1);var a:0..1;" + T, 2);
        Check.compiles("var b:0..1;max true->1:(b'=@a);var a:0..1;" + T, 2);
        Check.says("a const has the value of its rule, which has consts only");
        Check.compiles("formula f=1;const a=@f;" + T, 2);
        Check.compiles("var v:0..1;const a=1+@v;" + T, 2);
        Check.says("ranges and inits have consts only");
        for (String other : new String[] {"formula f=1;", "var f:0..1;"}) {
            Check.compiles(other + "var v:@f..1;" + T, 2);
            Check.compiles(other + "var v:0..@f;" + T, 2);
            Check.compiles(other + "var v:0..1 init @f;" + T, 2);
            Check.compiles(other + "var v:bool init @f=1;" + T, 2);
        }
    }

    private static void inits() {
        Check.says("a bool's is a truth (init false, if none is told)");
        Check.due("no init", 0, Check.explores("var x:bool;" + T, 0, 0).variable(0, 0));
        Check.due("init false", 0, Check.explores("var x:bool init false;" + T, 0, 0).variable(0, 0));
        Check.due("init true", 1, Check.explores("var x:bool init true;" + T, 0, 0).variable(0, 0));
        Check.says("a whole number from its range's first number to its last one (init the first, if none is told)");
        Check.due("no init", -5, Check.explores("var x:-5..7;" + T, 0, 0).variable(0, 0));
        Check.due("init the first", -5, Check.explores("var x:-5..7 init -5;" + T, 0, 0).variable(0, 0));
        Check.due("init the last", 7, Check.explores("var x:-5..7 init 7;" + T, 0, 0).variable(0, 0));
        Check.due("just one", -999999999, Check.explores("var x:-999999999..-999999999;" + T, 0, 0).variable(0, 0));
        Check.due("just one", 999999999, Check.explores("var x:999999999..999999999;" + T, 0, 0).variable(0, 0));
    }

    private static String many(String before, String after, int n) {
        StringBuilder all = new StringBuilder();
        for (int i = 0; i < n; i++) {
            all.append(before).append(i).append(after);
        }
        return all.toString();
    }

    private static GameText counted(String text, int vars, int defined, int commands) {
        GameText game = new GameText();
        Check.due("compile() of " + text, 0, Check.compile(game, text));
        Check.due("items(0) of " + text, vars, game.items(0));
        Check.due("items(1) of " + text, defined, game.items(1));
        Check.due("items(2) of " + text, commands, game.items(2));
        return game;
    }

    private static void counts() {
        Check.says("12 vars at most");
        counted(many("var v", ":bool;", 11) + "var w:0..1;" + T, 12, 0, 0);
        Check.compiles(many("var v", ":bool;", 11) + "var w:0..1;@var x:0..1;" + T, 5);
        Check.compiles(many("var v", ":0..1;", 12) + T + "const c=1;@var x:bool;", 5);
        Check.says("of at most 10000 numbers each");
        counted("var x:0..9999;" + T, 1, 0, 0);
        Check.compiles("var x:0..@10000;" + T, 9);
        counted("var x:-5000..4999;var y:-999999999..-999990000;" + T, 2, 0, 0);
        Check.compiles("var x:-5000..@5000;" + T, 9);
        Check.compiles("var x:-999999999..@-999989999;" + T, 9);
        Check.compiles("var x:-999999999..@999999999;" + T, 9);
        Check.says("60 consts and formulas together");
        counted(many("const c", "=1;", 60) + T, 0, 60, 0);
        counted(many("formula f", "=1;", 60) + T, 0, 60, 0);
        counted(many("const c", "=1;", 1) + many("formula f", "=1;", 59) + T, 0, 60, 0);
        Check.compiles(many("const c", "=1;", 60) + "@const d=1;" + T, 5);
        Check.compiles(many("const c", "=1;", 60) + "@formula d=1;" + T, 5);
        Check.compiles(many("formula f", "=1;", 60) + "@const d=1;" + T, 5);
        Check.compiles(many("formula f", "=1;", 60) + "@formula d=1;" + T, 5);
        Check.compiles(many("formula f", "=1;", 59) + "const c=1;@formula d=1;" + T, 5);
        Check.says("60 commands");
        counted(Check.times("max true->1:stay;", 59) + "min true->1:stay;" + T, 0, 0, 60);
        Check.compiles(Check.times("max true->1:stay;", 59) + "min true->1:stay;@min true->1:stay;" + T, 5);
        Check.compiles(T + Check.times("min true->1:stay;", 60) + "@max true->1:stay;", 5);
        Check.says("8 branches a command");
        String eight = "max true->1:stay" + Check.times("+0:stay", 7);
        counted(T + eight + ";" + eight + ";", 0, 0, 2);
        Check.compiles(T + eight + "+@0:stay;", 5);
        Check.compiles(T + eight + ";" + eight + "+@(0):stay+0:stay;", 5);
        Check.says("just one target");
        Check.compiles("@", 10);
        counted("target false;", 0, 0, 0);
        Check.compiles("target false;@target false;", 4);
    }

    // ---- 4 faults of compile()

    private static void words() {
        Check.says("1 no word, or one that can't stand: the first one with which the words up to it are no beginning of a text.");
        String faulty = "const a=b;target 3;target 4;var x:2..1;const c=1/0;var y:1/2..3;const d=999999999+1;";
        Check.compiles(faulty + "@;", 1);
        Check.compiles(faulty + "const d@", 1);
        Check.compiles(faulty + "@$", 1);
        Check.compiles(faulty + Check.times("var v:bool;", 20) + "max true->1:stay" + Check.times("+1:stay", 20) + "@,", 1);
        Check.says("(where the word it is told of begins; the text's length for its end)");
        Check.compiles("@1 1 1", 1);
        Check.compiles(" \n\t@1", 1);
        Check.compiles("target true  # and no more\n  @", 1);
        Check.compiles("target  # and no more@", 1);
        Check.says("If the text is one, by its items in their order");
        Check.compiles("const a=1@/0;target 3;", 7);
        Check.compiles("target @3;const a=1/0;", 3);
        Check.compiles("var x:2..@1;const x=b;", 9);
        Check.compiles("const x=@b;var x:2..1;", 2);
    }

    private static void fromTheLeft() {
        Check.says("in an item from the left, each word as it is met, each operation when all that it is made of .. has been looked at");
        Check.compiles("const a=true+@b;" + T, 2);
        Check.compiles("const a=1@+true+b;" + T, 3);
        Check.compiles("const a=(1@+true)*b;" + T, 3);
        Check.compiles("const a=1+true*@b;" + T, 2);
        Check.compiles("const a=1+true@*2;" + T, 3);
        Check.compiles("const a=true@+2*3;" + T, 3);
        Check.compiles("const a=!-@b;" + T, 2);
        Check.compiles("const a=!@-true;" + T, 3);
        Check.compiles("const a=@!-1;" + T, 3);
        Check.compiles("const a=1?2:@b;" + T, 2);
        Check.compiles("const a=1@?2:3;" + T, 3);
        Check.compiles("const a=1?2:3@+true;" + T, 3);
        Check.compiles("const a=1@?2:true?1:1;" + T, 3);
        Check.compiles("const a=1?2:1@?1:1;" + T, 3);
        Check.compiles("const a=least(true,@b);" + T, 2);
        Check.compiles("const a=@least(true,1)+b;" + T, 3);
        Check.compiles("const a=least(true,@most(1,true),b);" + T, 3);
        Check.compiles("const a=1@=true&b;" + T, 3);
        Check.says("(also what may be left out)");
        Check.compiles("const a=false&1@+true=1;" + T, 3);
        Check.compiles("const a=true|@b;" + T, 2);
        Check.compiles("const a=true?1:@b;" + T, 2);
        Check.compiles("const a=false?1@%true:1;" + T, 3);
    }

    private static void nameFaults() {
        Check.says("2 NAME: a name that is not known there, or (behind const, formula, var) that is known already");
        String[] items = {"const %=1;", "formula %=1;", "var %:0..1;", "var %:bool;"};
        for (String first : items) {
            for (String second : items) {
                Check.compiles(first.replace("%", "a") + T + second.replace("%", "@a"), 2);
                Check.compiles(first.replace("%", "a") + T + second.replace("%", "A"), 0);
            }
            Check.compiles(first.replace("%", "a") + "const @a=b+true;" + T, 2);
        }
        Check.says("behind '(' of a set one that is no var");
        Check.compiles("max true->1:(@a'=b);" + T, 2);
        Check.compiles("const a=1;max true->1:(@a'=b);" + T, 2);
        Check.compiles("formula a=1;max true->1:(@a'=b);" + T, 2);
        Check.compiles("var a:0..1;max true->1:(a'=@b);" + T, 2);
        Check.compiles("var a:0..1;max true->@b:(c'=1);" + T, 2);
        Check.says("in a rule of consts one that is none");
        Check.compiles("var a:0..1;formula f=a;const b=@f+true;" + T, 2);
        Check.compiles("var a:bool;const b=1?2:@a;" + T, 2);
    }

    private static void kindFaults() {
        Check.says("of a whole rule, when it is looked at, at its first word");
        for (String number : new String[] {"1", "(1)", "-1", "least(1,2)", "1+2*3", "c", "f", "x"}) {
            String known = "const c=1;formula f=1;var x:0..1;var b:bool;";
            Check.compiles(known + "target @" + number + ";", 3);
            Check.compiles(known + T + "max @" + number + "->unknown:stay;", 3);
            Check.compiles(known + T + "max true->1:(b'=@" + number + ")&(unknown'=1);", 3);
            if (!number.equals("f") && !number.equals("x")) {
                Check.compiles(known + T + "var d:bool init @" + number + ";", 3);
            }
        }
        for (String truth : new String[] {"true", "(true)", "!false", "1=2", "1<2&true", "c", "f", "b"}) {
            String known = "const c=true;formula f=true;var x:0..1;var b:bool;";
            Check.compiles(known + T + "max true->@" + truth + ":(unknown'=1);", 3);
            Check.compiles(known + T + "max true->1:(x'=@" + truth + ")+unknown:stay;", 3);
            if (!truth.equals("f") && !truth.equals("b")) {
                Check.compiles(known + T + "var d:@" + truth + "..unknown;", 3);
                Check.compiles(known + T + "var d:0..@" + truth + " init unknown;", 3);
                Check.compiles(known + T + "var d:0..1 init @" + truth + ";", 3);
            }
        }
    }

    private static void twiceAndMany() {
        String x = "var x:0..1;var y:0..1;" + T;
        Check.says("4 TWICE: a var set twice in a branch (at the second one's NAME), a second target (at target)");
        Check.compiles(x + "max true->1:(x'=1)&(@x'=b);", 4);
        Check.compiles(x + "max true->1:(x'=1)&(y'=1)&(@y'=true);", 4);
        Check.compiles(x + "max true->1:(x'=1)&(y'=1)&(@x'=1)&(y'=1);", 4);
        Check.compiles(x + "max true->1/2:(x'=1)&(y'=1)+1/2:(y'=1)&(x'=1);max true->1:(x'=1);", 0);
        String twelve = many("var v", ":0..1;", 12) + T + "max true->1:(v0'=1)";
        for (int v = 1; v < 12; v++) {
            twelve += "&(v" + v + "'=1)";
        }
        Check.compiles(twelve + ";", 0);
        for (int v = 0; v < 12; v++) {
            Check.compiles(twelve + "&(@v" + v + "'=b);", 4);
        }
        Check.compiles(x + "@target b;", 4);
        Check.compiles(x + "var z:0..1;@target 1;", 4);
        Check.says("5 MANY: .. (first of all in it; at the item's first word, or the branch's)");
        Check.compiles(many("var v", ":bool;", 12) + " @var v0:b..true;" + T, 5);
        Check.compiles(many("const v", "=1;", 60) + " @const v0=b+true;" + T, 5);
        Check.compiles(many("const v", "=1;", 60) + " @formula v0=b+true;" + T, 5);
        Check.compiles(Check.times("max true->1:stay;", 60) + " @min b+true->1:(b'=1);" + T, 5);
        String eight = "max true->1:stay" + Check.times("+0:stay", 7);
        Check.compiles(x + eight + "+ @b+true:(b'=1);", 5);
        Check.compiles(x + eight + "+ @(1):stay+b:stay;", 5);
        Check.compiles(x + eight.substring(0, eight.length() - 4) + "(x'=@b)+0:stay;", 2);
        Check.compiles(x + eight.replace("true", "@1") + "+0:stay;", 3);
    }

    private static void wordsBeforeNumbers() {
        Check.says("In an item all words of it are looked at for 2, 3, 4, 5 before its numbers are worked out");
        Check.compiles("const a=1/0+@b;" + T, 2);
        Check.compiles("const a=1/0@+true;" + T, 3);
        Check.compiles("const a=999999999+1@&true;" + T, 3);
        Check.compiles("var x:1/0..@b;" + T, 2);
        Check.compiles("var x:1/0..@true;" + T, 3);
        Check.compiles("var x:2..1 init @b;" + T, 2);
        Check.compiles("var x:1/2..1 init @true;" + T, 3);
        Check.compiles("const a=1@/0;const a=b;" + T, 7);
        Check.says("8 WHOLE: .. ranges and inits, at the rule's first word, as soon as it is worked out");
        Check.compiles("var x:@1/2..1/0;" + T, 8);
        Check.compiles("var x:@(1/2)..1/3;" + T, 8);
        Check.compiles("var x:@-1/2..3;" + T, 8);
        Check.compiles("var x:0..@1/2 init 1/0;" + T, 8);
        Check.compiles("var x:1..@1/2;" + T, 8);
        Check.compiles("var x:0..@99999/2;" + T, 8);
        Check.compiles("var x:0..1 init @1/2;" + T, 8);
        Check.compiles("var x:0..1 init @5/2;" + T, 8);
        Check.compiles("var x:4/4..6/3 init 3/3;" + T, 0);
        Check.compiles("var x:1@/0..1/2;" + T, 7);
        Check.compiles("var x:2..1@/0;" + T, 7);
        Check.compiles("var x:2..1@%(1/2);" + T, 8);
        Check.compiles("var x:2..3 init 999999999@+4;" + T, 6);
    }

    private static void rangeFaults() {
        Check.says("9 RANGE: the first number of a range is greater than the last one");
        Check.compiles("var x:1..1;" + T, 0);
        Check.compiles("var x:1..@0;" + T, 9);
        Check.compiles("var x:-1..-1;" + T, 0);
        Check.compiles("var x:-1..@-2;" + T, 9);
        Check.compiles("var x:999999999..@-999999999;" + T, 9);
        Check.says("or there are too many (at the second one's first word, before the init)");
        Check.compiles("var x:1..10000 init 10000;" + T, 0);
        Check.compiles("var x:1..@(10001) init 1/0;" + T, 9);
        Check.compiles("var x:1..@0 init 1/0;" + T, 9);
        Check.compiles("var x:1..@0 init 1/2;" + T, 9);
        Check.says("or an init lies outside of it (at its first word)");
        Check.compiles("var x:-2..5 init -2;" + T, 0);
        Check.compiles("var x:-2..5 init @-3;" + T, 9);
        Check.compiles("var x:-2..5 init 5;" + T, 0);
        Check.compiles("var x:-2..5 init @(6);" + T, 9);
        Check.compiles("var x:-2..5 init @-999999999;" + T, 9);
        Check.compiles("var x:-2..5 init @999999999;" + T, 9);
        Check.says("6, 7 and 8 of % at the operation's sign.");
        Check.compiles("const a=(1+2) @/ (3-3);" + T, 7);
        Check.compiles("const a=(1+2) @% (3-3);" + T, 7);
        Check.compiles("const a=(1/2) @% (3-3);" + T, 8);
        Check.compiles("const a=(999999999) @+ (3-2);" + T, 6);
        Check.says("At the text's end: 10 TARGET: none.");
        Check.compiles("@", 10);
        Check.compiles("var x:0..1;max true->1:stay;@", 10);
        Check.compiles("const a=1;  # target true;  @", 10);
        Check.compiles("const target_=1;\n@", 10);
    }

    public static void main(String[] args) {
        sums();
        products();
        rests();
        wanted();
        known();
        inits();
        counts();
        words();
        fromTheLeft();
        nameFaults();
        kindFaults();
        twiceAndMany();
        wordsBeforeNumbers();
        rangeFaults();
        Check.finish("BoundsOfItemsTest");
    }
}
