import java.util.ArrayList;
import java.util.Arrays;
import java.util.List;

/**
 * The grammar (Terms, 2), word by word: at each point of a text every word is tried; those that the document lets
 * stand there are taken, all others, what is no word, and the text's end are refused there with the fault 1.
 */
public final class GrammarTest {
    private static final String SIGNS = ".. -> != <= >= < > = + - * / % & | ! ? : ; , ( ) '";
    private static final String KEYS = "const var bool formula max min init stay target true false least most";
    private static final String NO_WORDS = ". _ $ @ \" [ ] { } ^ ~ ` \\ 1234567890 " + Check.times("a", 41);
    private static final String[] ALL =
        (SIGNS + " " + KEYS + " n N0_ 1 000000000 " + Check.times("Z", 40) + " " + NO_WORDS).split(" ");
    private static final String NAMES = "n N0_ " + Check.times("Z", 40);
    private static final String ITEMS = "const formula var target max min";

    // What may begin a "sign", and what may begin a "not".
    private static final String SIGN = NAMES + " 1 000000000 true false - ( least most";
    private static final String NOT = SIGN + " !";
    private static final String COUNTS = "* / % + -";
    private static final String COMPARES = "= != < <= > >=";
    private static final String LOGIC = "& |";

    private GrammarTest() {
    }

    private static void triesEnd(String before, boolean mayEnd) {
        GameText game = new GameText();
        int fault = Check.compile(game, before);
        if (mayEnd) {
            Check.dueTrue("the end may stand behind '" + before + "'", fault != 1);
        } else {
            Check.due("the end behind '" + before + "'", 1, fault);
            Check.due("its place", before.length(), game.place());
        }
    }

    /** Just these words (with blanks between them) may stand behind what is before. */
    private static void just(String before, boolean mayEnd, String... words) {
        List<String> may = new ArrayList<>();
        for (String some : words) {
            may.addAll(Arrays.asList(some.split(" ")));
        }
        for (String word : ALL) {
            GameText game = new GameText();
            int fault = Check.compile(game, before + word);
            boolean refused = fault == 1 && game.place() == before.length();
            Check.due("'" + word + "' behind '" + before + "' is refused", may.contains(word) ? 0 : 1, refused ? 1 : 0);
            if (may.contains(word) && fault == 1) {
                Check.due("'" + word + "' behind '" + before + "' wants more", before.length() + word.length(), game.place());
            }
        }
        triesEnd(before, mayEnd);
    }

    private static void points(boolean mayEnd, String[]... rows) {
        for (String[] row : rows) {
            just(row[0], mayEnd, Arrays.copyOfRange(row, 1, row.length));
        }
    }

    private static String[] row(String... parts) {
        return parts;
    }

    private static void items() {
        points(true, row("", ITEMS), row("target true ; ", ITEMS), row("max true -> 1 : stay ; ", ITEMS),
            row("var n : bool ; ", ITEMS), row("var n : bool init true ; ", ITEMS), row("var n : 1 .. 2 ; ", ITEMS),
            row("const n = 1 ; ", ITEMS), row("formula n = 1 ; # a note\n", ITEMS));
        points(false, row("const ", NAMES), row("formula ", NAMES), row("var ", NAMES), row("const n ", "="),
            row("formula n ", "="), row("var n ", ":"), row("var n : ", NOT, "bool"), row("var n : bool ", "init ;"));
    }

    private static void branches() {
        for (String command : new String[] {"max true -> 1 : ", "min 1 -> 1 : stay + 1 : ", "max n -> n : ( n ' = 1 ) + 1 : "}) {
            points(false, row(command, "stay ("), row(command + "stay ", "+ ;"), row(command + "( ", NAMES),
                row(command + "( n ", "'"), row(command + "( n ' ", "="), row(command + "( n ' = 1 ) ", "& + ;"),
                row(command + "( n ' = 1 ) & ", "("), row(command + "( n ' = 1 ) & ( ", NAMES),
                row(command + "( n ' = 1 ) & ( n ' = ( 1 ) ) ", "& + ;"));
        }
    }

    /** All points of a rule; what ends it, and '?' unless what it is in is only an "or". */
    private static void rule(String before, String ends, String asks) {
        if (!before.equals("var n : ")) {
            just(before, false, NOT);
        }
        for (String open : new String[] {"! ", "! ! ", "( ", "( ( ", "1 & ", "! 1 & ", "1 = 1 & ", "1 | ", "1 < 2 | ",
            "1 & 1 | ", "least ( ", "most ( ", "least ( 1 , ", "most ( 1 , 2 , ", "( 1 ? ", "( 1 ? 1 : "}) {
            just(before + open, false, NOT);
        }
        for (String open : new String[] {"- ", "- - ", "1 + ", "1 - ", "1 * ", "1 / ", "1 % ", "1 + 1 * ", "1 = ", "1 != ",
            "1 < ", "1 <= ", "1 > ", "1 >= ", "! 1 = ", "1 & 1 < ", "1 * - ", "! - ", "1 = - "}) {
            just(before + open, false, SIGN);
        }
        for (String list : new String[] {"least ", "most ", "1 + least ", "! most ", "( least "}) {
            just(before + list, false, "(");
        }
        for (String whole : new String[] {"1 ", "n ", "true ", "false ", "- 1 ", "! 1 ", "1 + 1 ", "1 - 1 * 1 ", "( 1 ) ",
            "( 1 = 1 ) ", "least ( 1 ) ", "most ( 1 , 1 ) ", "1 = 1 & 1 ", "1 < 1 | ! 1 ", "( 1 ? 1 : 1 ) "}) {
            just(before + whole, false, COUNTS, COMPARES, LOGIC, asks, ends);
        }
        for (String compared : new String[] {"1 = 1 ", "1 != n ", "1 < - 1 ", "1 <= 1 + 1 ", "! 1 > 1 ", "! ! 1 >= ( 1 ) ",
            "1 & 1 = 1 ", "1 = 1 & 1 < 1 ", "1 = least ( 1 = 1 ) "}) {
            just(before + compared, false, COUNTS, LOGIC, asks, ends);
        }
        insideBrackets(before);
    }

    private static void insideBrackets(String before) {
        just(before + "( 1 ", false, COUNTS, COMPARES, LOGIC, "? )");
        just(before + "( 1 = 1 ", false, COUNTS, LOGIC, "? )");
        just(before + "least ( 1 ", false, COUNTS, COMPARES, LOGIC, "? , )");
        just(before + "most ( 1 , 1 < 1 ", false, COUNTS, LOGIC, "? , )");
        just(before + "( 1 ? 1 ", false, COUNTS, COMPARES, LOGIC, "? :");
        just(before + "( 1 ? 1 : 1 ", false, COUNTS, COMPARES, LOGIC, "? )");
        just(before + "( 1 ? 1 ? 1 : 1 ", false, COUNTS, COMPARES, LOGIC, "? :");
        just(before + "least ( 1 ? 1 : 1 ", false, COUNTS, COMPARES, LOGIC, "? , )");
        just(before + "least ( ( 1 ", false, COUNTS, COMPARES, LOGIC, "? )");
    }

    private static void asked(String before, String ends) {
        rule(before, ends, "?");
        just(before + "1 ? ", false, NOT);
        just(before + "1 ? 1 ", false, COUNTS, COMPARES, LOGIC, "? :");
        just(before + "1 ? 1 = 1 ", false, COUNTS, LOGIC, "? :");
        just(before + "1 ? 1 : ", false, NOT);
        just(before + "1 ? 1 : 1 ", false, COUNTS, COMPARES, LOGIC, "?", ends);
        just(before + "1 ? 1 : 1 = 1 ", false, COUNTS, LOGIC, "?", ends);
        just(before + "1 ? 1 ? 1 : 1 ", false, COUNTS, COMPARES, LOGIC, "? :");
        just(before + "1 ? 1 ? 1 : 1 : 1 ", false, COUNTS, COMPARES, LOGIC, "?", ends);
        just(before + "1 ? 1 : 1 ? 1 : 1 ", false, COUNTS, COMPARES, LOGIC, "?", ends);
        just(before + "1 = 1 ? 1 : 1 ", false, COUNTS, COMPARES, LOGIC, "?", ends);
    }

    public static void main(String[] args) {
        items();
        branches();
        asked("const n = ", ";");
        asked("formula n = ", ";");
        asked("target ", ";");
        asked("var n : ", "..");
        asked("var n : 1 .. ", "init ;");
        asked("var n : 1 .. 2 init ", ";");
        asked("var n : bool init ", ";");
        asked("max ", "->");
        asked("min ", "->");
        asked("max true -> 1 : ( n ' = ", ")");
        asked("min true -> 1 : stay + 1 : ( n ' = 1 ) & ( n ' = ", ")");
        // In front of a branch's ':' stands an "or", which has no '?' of its own.
        rule("max true -> ", ":", "");
        rule("min true -> 1 : stay + ", ":", "");
        rule("min true -> 1 : ( n ' = 1 ) + ", ":", "");
        Check.finish("GrammarTest");
    }
}
