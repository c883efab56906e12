/** What all tests share: putting texts on the tape, and counting wrong answers. */
final class Check {
    private static int wrong = 0;
    private static int asked = 0;
    private static String sentence = "";

    private Check() {
    }

    /** The document's sentence that the answers from here on are due by: it is told with each wrong one. */
    static void says(String words) {
        sentence = "[" + words + "] ";
    }

    static void due(String what, long want, long got) {
        asked++;
        if (got != want) {
            wrong++;
            System.out.println(sentence + what + " answered " + got + ", due is " + want);
        }
    }

    static void dueTrue(String what, boolean holds) {
        due(what, 1, holds ? 1 : 0);
    }

    /** Puts a text on the tape: whole feeds, and an end() for what is left. */
    static void feed(GameText game, String text) {
        for (int from = 0; from < text.length(); from += 20) {
            int[] fours = new int[5];
            for (int i = 0; i < 20; i++) {
                int c = from + i < text.length() ? text.charAt(from + i) : 'x';
                fours[i / 4] = fours[i / 4] << 8 | c;
            }
            game.feed(fours[0], fours[1], fours[2], fours[3], fours[4]);
        }
        if (text.length() % 20 != 0) {
            game.end(text.length() % 20);
        }
    }

    static int compile(GameText game, String text) {
        feed(game, text);
        return game.compile();
    }

    /** A text, with '@' where the fault's place is (and no '@' when there is no fault). */
    static void compiles(String marked, int fault) {
        GameText game = new GameText();
        int place = marked.indexOf('@');
        String text = place < 0 ? marked : marked.substring(0, place) + marked.substring(place + 1);
        due("compile() of " + marked, fault, compile(game, text));
        due("place() of " + marked, fault == 0 ? -1 : place, game.place());
        due("items(0) of " + marked + " is told", fault == 0 ? 1 : 0, game.items(0) >= 0 ? 1 : 0);
    }

    /** A text that compiles, with '@' where exploring it finds its fault, and in which state. */
    static GameText explores(String marked, int fault, int state) {
        GameText game = new GameText();
        int place = marked.indexOf('@');
        String text = place < 0 ? marked : marked.substring(0, place) + marked.substring(place + 1);
        due("compile() of " + marked, 0, compile(game, text));
        due("explore() of " + marked, fault, game.explore());
        due("place() of " + marked, fault == 0 ? -1 : place, game.place());
        due("state() of " + marked, fault == 0 ? -1 : state, game.state());
        if (fault != 0) {
            due("states() of " + marked, 0, game.states());
        }
        return game;
    }

    static String times(String part, int n) {
        StringBuilder all = new StringBuilder();
        for (int i = 0; i < n; i++) {
            all.append(part);
        }
        return all.toString();
    }

    static void finish(String test) {
        System.out.println(test + ": " + asked + " answers, " + wrong + " of them wrong");
        if (wrong > 0) {
            System.exit(1);
        }
    }
}
