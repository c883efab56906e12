import java.io.IOException;
import java.util.ArrayList;
import java.util.List;
import java.util.Random;
import java.util.Set;
import java.util.TreeSet;

/**
 * The class against the grammar as it stands in ../shared/DOC.md: random texts grow a word at a time, and at each
 * point every word of the document is tried. Texts stay too short for the 41st level, which the grammar doesn't tell.
 */
public final class DocumentTest {
    private static final int TEXTS = 200;
    private static final int GROWS = 24;
    // Where texts begin to grow: few would come so far by chance.
    private static final String[] BEGINNINGS = {"", "max NAME '->' NUMBER ':'", "var NAME ':' NUMBER '..' NUMBER",
        "min NAME '->' NUMBER ':' '(' NAME ''' '=' NUMBER ')'"};
    // Half of the words are of these where one may stand, or few texts would come to the end of their first rule.
    private static final List<String> HASTE =
        List.of("NAME", "NUMBER", "';'", "'->'", "':'", "'..'", "')'", "'+'", "stay", "init");
    private static final String[] NO_WORDS = {".", "_", "$", "\"", "1234567890", Check.times("a", 41)};

    private final Document document = new Document();
    private final Grammar grammar = new Grammar(document.grammar());
    private final List<String> all = new ArrayList<>(grammar.words());
    private final Set<String> taken = new TreeSet<>();
    private final Random random = new Random(14);

    private DocumentTest() throws IOException {
    }

    /** A word of the grammar as it stands in a text. */
    private static String written(String word) {
        if (word.equals("NAME")) {
            return "n";
        }
        if (word.equals("NUMBER")) {
            return "1";
        }
        return word.startsWith("'") ? word.substring(1, word.length() - 1) : word;
    }

    private void wordsAreTheDocuments() {
        Set<String> named = new TreeSet<>();
        for (String word : all) {
            named.add(written(word));
        }
        Set<String> told = new TreeSet<>(document.signs());
        told.addAll(document.keys());
        told.add("n");
        told.add("1");
        Check.dueTrue("the grammar was read: its words are " + named + ", those told are " + told, named.equals(told));
    }

    private void keysAreNoNames() {
        for (String key : document.keys()) {
            Check.compiles("const @" + key + " = 1; target true;", 1);
            Check.compiles("const " + key + "_ = 1; const x" + key + " = 1; target " + key + "_ = x" + key + ";", 0);
            String other = key.substring(0, 1).toUpperCase() + key.substring(1);
            Check.compiles("const " + other + " = 1; target " + other + " = 1;", 0);
        }
    }

    private static boolean isRefused(String before, String word) {
        GameText game = new GameText();
        return Check.compile(game, before + word) == 1 && game.place() == before.length();
    }

    private void triesAll(Grammar.Reading reading, String before) {
        Set<String> may = reading.mayFollow();
        for (String word : all) {
            Check.due("'" + word + "' behind '" + before + "' is refused", may.contains(word) ? 0 : 1,
                isRefused(before, written(word)) ? 1 : 0);
        }
        for (String word : NO_WORDS) {
            Check.dueTrue("'" + word + "' behind '" + before + "' is refused", isRefused(before, word));
        }
        Check.due("the end behind '" + before + "' is refused", reading.mayEnd() ? 0 : 1, isRefused(before, "") ? 1 : 0);
    }

    private void growsText(String beginning) {
        Grammar.Reading reading = grammar.new Reading();
        String before = "";
        String[] given = beginning.isEmpty() ? new String[0] : beginning.split(" ");
        for (int i = 0; i < given.length + GROWS; i++) {
            triesAll(reading, before);
            String word = i < given.length ? given[i] : anyOf(reading.mayFollow());
            reading.take(word);
            taken.add(word);
            before += written(word) + " ";
        }
    }

    private String anyOf(Set<String> words) {
        List<String> may = new ArrayList<>(words);
        if (random.nextBoolean()) {
            may.retainAll(HASTE);
        }
        if (may.isEmpty()) {
            may.addAll(words);
        }
        return may.get(random.nextInt(may.size()));
    }

    public static void main(String[] args) throws IOException {
        DocumentTest test = new DocumentTest();
        test.wordsAreTheDocuments();
        test.keysAreNoNames();
        for (int i = 0; i < TEXTS; i++) {
            test.growsText(BEGINNINGS[i % BEGINNINGS.length]);
        }
        Check.dueTrue("the texts had every word of the document", test.taken.containsAll(test.all));
        Check.finish("DocumentTest");
    }
}
