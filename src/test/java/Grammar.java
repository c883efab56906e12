import java.util.ArrayList;
import java.util.HashMap;
import java.util.HashSet;
import java.util.LinkedHashSet;
import java.util.List;
import java.util.Map;
import java.util.Set;
import java.util.TreeSet;
import java.util.regex.Matcher;
import java.util.regex.Pattern;

/**
 * A grammar in the document's own notation, and which words may stand behind some words by it. It knows nothing of
 * these texts but that notation: all ways to read the words are followed at once (as Earley told), for any grammar.
 */
final class Grammar {
    private static final Pattern PART = Pattern.compile("'''|'[^']+'|[A-Za-z]+|[()\\[\\]|*=]");

    /** One way to make something: of these parts, in their order. */
    private static final class Way {
        final String makes;
        final List<String> parts;

        Way(String makes, List<String> parts) {
            this.makes = makes;
            this.parts = parts;
        }
    }

    /** A way that is gone as far as a part, from a word on. */
    private record Gone(Way way, int done, int from) {
        boolean isOver() {
            return done == way.parts.size();
        }

        String next() {
            return way.parts.get(done);
        }

        Gone further() {
            return new Gone(way, done + 1, from);
        }
    }

    private final List<String> notation = new ArrayList<>();
    private final Map<String, List<Way>> ways = new HashMap<>();
    private final Set<String> empty = new HashSet<>();
    private final String whole;
    private int at = 0;
    private int helpers = 0;

    Grammar(String told) {
        Matcher part = PART.matcher(told);
        while (part.find()) {
            notation.add(part.group());
        }
        whole = notation.get(0);
        while (at < notation.size()) {
            String name = notation.get(at);
            at += 2;
            readWays(name);
        }
        findEmpty();
    }

    private boolean isAt(String part) {
        return at < notation.size() && notation.get(at).equals(part);
    }

    private boolean isOver() {
        boolean nextBegins = at + 1 < notation.size() && notation.get(at + 1).equals("=");
        return at >= notation.size() || nextBegins || isAt("|") || isAt(")") || isAt("]");
    }

    private void readWays(String name) {
        List<Way> made = ways.computeIfAbsent(name, n -> new ArrayList<>());
        do {
            List<String> parts = new ArrayList<>();
            while (!isOver()) {
                parts.add(readPart());
            }
            made.add(new Way(name, parts));
        } while (passes("|"));
    }

    private boolean passes(String part) {
        boolean is = isAt(part);
        at += is ? 1 : 0;
        return is;
    }

    private String readPart() {
        String part = notation.get(at);
        at++;
        if (part.equals("(") || part.equals("[")) {
            String group = helper();
            readWays(group);
            at++;
            if (part.equals("[")) {
                ways.get(group).add(new Way(group, List.of()));
            }
            part = group;
        }
        if (passes("*")) {
            String many = helper();
            ways.put(many, List.of(new Way(many, List.of()), new Way(many, List.of(many, part))));
            part = many;
        }
        return part;
    }

    private String helper() {
        helpers++;
        return "helper " + helpers;
    }

    private void findEmpty() {
        boolean found = true;
        while (found) {
            found = false;
            for (List<Way> all : ways.values()) {
                for (Way way : all) {
                    found |= empty.containsAll(way.parts) && empty.add(way.makes);
                }
            }
        }
    }

    /** All words that the grammar names: signs in their quotes, NAME, NUMBER, and the others as they are. */
    Set<String> words() {
        Set<String> all = new TreeSet<>();
        for (List<Way> some : ways.values()) {
            for (Way way : some) {
                all.addAll(way.parts);
            }
        }
        all.removeAll(ways.keySet());
        return all;
    }

    /** The words read so far, with all ways to read them. */
    final class Reading {
        private final List<Set<Gone>> sets = new ArrayList<>();

        Reading() {
            Set<Gone> first = new LinkedHashSet<>();
            for (Way way : ways.get(whole)) {
                first.add(new Gone(way, 0, 0));
            }
            close(first);
        }

        private void close(Set<Gone> set) {
            int here = sets.size();
            sets.add(set);
            List<Gone> open = new ArrayList<>(set);
            for (int i = 0; i < open.size(); i++) {
                for (Gone more : follow(open.get(i), here)) {
                    if (set.add(more)) {
                        open.add(more);
                    }
                }
            }
        }

        private List<Gone> follow(Gone gone, int here) {
            List<Gone> more = new ArrayList<>();
            if (gone.isOver()) {
                for (Gone waiting : sets.get(gone.from())) {
                    if (!waiting.isOver() && waiting.next().equals(gone.way().makes)) {
                        more.add(waiting.further());
                    }
                }
            } else if (ways.containsKey(gone.next())) {
                for (Way way : ways.get(gone.next())) {
                    more.add(new Gone(way, 0, here));
                }
                if (empty.contains(gone.next())) {
                    more.add(gone.further());
                }
            }
            return more;
        }

        private Set<Gone> latest() {
            return sets.get(sets.size() - 1);
        }

        Set<String> mayFollow() {
            Set<String> may = new TreeSet<>();
            for (Gone gone : latest()) {
                if (!gone.isOver() && !ways.containsKey(gone.next())) {
                    may.add(gone.next());
                }
            }
            return may;
        }

        boolean mayEnd() {
            for (Gone gone : latest()) {
                if (gone.isOver() && gone.from() == 0 && gone.way().makes.equals(whole)) {
                    return true;
                }
            }
            return false;
        }

        void take(String word) {
            Set<Gone> behind = new LinkedHashSet<>();
            for (Gone gone : latest()) {
                if (!gone.isOver() && gone.next().equals(word)) {
                    behind.add(gone.further());
                }
            }
            close(behind);
        }
    }
}
