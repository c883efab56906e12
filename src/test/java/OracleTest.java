import java.math.BigInteger;
import java.util.ArrayList;
import java.util.Arrays;
import java.util.HashMap;
import java.util.LinkedHashMap;
import java.util.List;
import java.util.Map;
import java.util.Random;

/**
 * Random texts (of fixed seeds), each read by GameText and by a second reader that is made another way:
 * by recursion, over trees, with numbers of any size. Both must answer the same. Both are by one author,
 * so this finds slips, but no wrong reading of the document.
 */
public final class OracleTest {
    private static final BigInteger LARGE = BigInteger.valueOf(1000000000);
    private static final List<String> KEYS = Arrays.asList("const", "var", "bool", "formula", "max", "min",
        "init", "stay", "target", "true", "false", "least", "most");

    private OracleTest() {
    }

    static final class Fault extends RuntimeException {
        private static final long serialVersionUID = 1L;
        final int fault;
        final int place;

        Fault(int fault, int place) {
            super(null, null, false, false);
            this.fault = fault;
            this.place = place;
        }
    }

    // ---- words

    static final class Word {
        final String sort;
        final String text;
        final int start;

        Word(String sort, String text, int start) {
            this.sort = sort;
            this.text = text;
            this.start = start;
        }
    }

    static boolean letter(char c) {
        return c >= 'a' && c <= 'z' || c >= 'A' && c <= 'Z';
    }

    static boolean digit(char c) {
        return c >= '0' && c <= '9';
    }

    static List<Word> words(String s) {
        List<Word> all = new ArrayList<>();
        String[] signs = {"..", "->", "!=", "<=", ">=", "<", ">", "=", "+", "-", "*", "/", "%", "&", "|", "!", "?",
            ":", ";", ",", "(", ")", "'"};
        int i = 0;
        outer:
        while (i < s.length()) {
            char c = s.charAt(i);
            if (c == '#') {
                int to = s.indexOf('\n', i);
                i = to < 0 ? s.length() : to + 1;
                continue;
            }
            if (c == 9 || c == 10 || c == 13 || c == 32) {
                i++;
                continue;
            }
            int j = i;
            if (letter(c)) {
                while (j < s.length() && (letter(s.charAt(j)) || digit(s.charAt(j)) || s.charAt(j) == '_')) {
                    j++;
                }
                String text = s.substring(i, j);
                all.add(new Word(j - i > 40 ? "none" : KEYS.contains(text) ? text : "name", text, i));
                i = j;
                continue;
            }
            if (digit(c)) {
                while (j < s.length() && digit(s.charAt(j))) {
                    j++;
                }
                all.add(new Word(j - i > 9 ? "none" : "number", s.substring(i, j), i));
                i = j;
                continue;
            }
            for (String sign : signs) {
                if (s.startsWith(sign, i)) {
                    all.add(new Word(sign, sign, i));
                    i += sign.length();
                    continue outer;
                }
            }
            all.add(new Word("none", "", i));
            i++;
        }
        all.add(new Word("end", "", s.length()));
        return all;
    }

    // ---- trees

    static final class Rule {
        String does;
        int place;
        String text;
        List<Rule> parts = new ArrayList<>();
        int firstWord;

        Rule(String does, int place, Rule... parts) {
            this.does = does;
            this.place = place;
            this.parts.addAll(Arrays.asList(parts));
        }
    }

    static final class SetTo {
        int open;
        String name;
        int namePlace;
        Rule rule;
    }

    static final class Branch {
        int firstWord;
        Rule chance;
        List<SetTo> sets = new ArrayList<>();
    }

    static final class Item {
        String sort;
        int place;
        String name;
        int namePlace;
        boolean bool;
        Rule rule;
        Rule high;
        Rule init;
        List<Branch> branches = new ArrayList<>();
    }

    static final class Reader {
        final List<Word> words;
        int at = 0;
        int depth = 0;

        Reader(String s) {
            words = words(s);
        }

        Word now() {
            return words.get(at);
        }

        boolean sees(String... sorts) {
            return Arrays.asList(sorts).contains(now().sort);
        }

        Fault cannot() {
            return new Fault(1, now().start);
        }

        Word must(String... sorts) {
            if (!sees(sorts)) {
                throw cannot();
            }
            return words.get(at++);
        }

        Word mustDeepen(String sort) {
            if (!sees(sort) || depth == 40) {
                throw cannot();
            }
            depth++;
            return words.get(at++);
        }

        List<Item> text() {
            List<Item> items = new ArrayList<>();
            while (!sees("end")) {
                items.add(item());
            }
            return items;
        }

        Item item() {
            Item item = new Item();
            Word first = must("const", "formula", "var", "target", "max", "min");
            item.sort = first.sort;
            item.place = first.start;
            if (first.sort.equals("target")) {
                item.rule = rule();
            } else if (first.sort.equals("max") || first.sort.equals("min")) {
                item.rule = rule();
                must("->");
                item.branches.add(branch());
                while (sees("+")) {
                    must("+");
                    item.branches.add(branch());
                }
            } else {
                Word name = must("name");
                item.name = name.text;
                item.namePlace = name.start;
                if (first.sort.equals("var")) {
                    range(item);
                } else {
                    must("=");
                    item.rule = rule();
                }
            }
            must(";");
            return item;
        }

        void range(Item item) {
            must(":");
            if (sees("bool")) {
                must("bool");
                item.bool = true;
            } else {
                item.rule = rule();
                must("..");
                item.high = rule();
            }
            if (sees("init")) {
                must("init");
                item.init = rule();
            }
        }

        Branch branch() {
            Branch branch = new Branch();
            branch.firstWord = now().start;
            branch.chance = or();
            branch.chance.firstWord = branch.firstWord;
            must(":");
            if (sees("stay")) {
                must("stay");
                return branch;
            }
            branch.sets.add(set());
            while (sees("&")) {
                must("&");
                branch.sets.add(set());
            }
            return branch;
        }

        SetTo set() {
            SetTo set = new SetTo();
            set.open = mustDeepen("(").start;
            Word name = must("name");
            set.name = name.text;
            set.namePlace = name.start;
            must("'");
            must("=");
            set.rule = rule();
            must(")");
            depth--;
            return set;
        }

        Rule rule() {
            int first = now().start;
            Rule rule = or();
            if (sees("?")) {
                Word sign = mustDeepen("?");
                Rule b = rule();
                must(":");
                rule = new Rule("?", sign.start, rule, b, rule());
                depth--;
            }
            rule.firstWord = first;
            return rule;
        }

        Rule or() {
            Rule rule = and();
            while (sees("|")) {
                Word sign = must("|");
                rule = new Rule("|", sign.start, rule, and());
            }
            return rule;
        }

        Rule and() {
            Rule rule = not();
            while (sees("&")) {
                Word sign = must("&");
                rule = new Rule("&", sign.start, rule, not());
            }
            return rule;
        }

        Rule not() {
            if (sees("!")) {
                Word sign = mustDeepen("!");
                Rule rule = new Rule("!", sign.start, not());
                depth--;
                return rule;
            }
            Rule rule = sum();
            if (sees("=", "!=", "<", "<=", ">", ">=")) {
                Word sign = words.get(at++);
                rule = new Rule(sign.sort, sign.start, rule, sum());
            }
            return rule;
        }

        Rule sum() {
            Rule rule = product();
            while (sees("+", "-")) {
                Word sign = words.get(at++);
                rule = new Rule(sign.sort, sign.start, rule, product());
            }
            return rule;
        }

        Rule product() {
            Rule rule = sign();
            while (sees("*", "/", "%")) {
                Word sign = words.get(at++);
                rule = new Rule(sign.sort, sign.start, rule, sign());
            }
            return rule;
        }

        Rule sign() {
            Word word = now();
            Rule rule;
            if (sees("-")) {
                mustDeepen("-");
                rule = new Rule("negate", word.start, sign());
                depth--;
            } else if (sees("(")) {
                mustDeepen("(");
                rule = rule();
                must(")");
                depth--;
            } else if (sees("least", "most")) {
                at++;
                rule = new Rule(word.sort, word.start);
                mustDeepen("(");
                rule.parts.add(rule());
                while (sees(",")) {
                    must(",");
                    rule.parts.add(rule());
                }
                must(")");
                depth--;
            } else {
                must("number", "name", "true", "false");
                rule = new Rule(word.sort, word.start);
                rule.text = word.text;
            }
            return rule;
        }
    }

    // ---- values: a fraction in least terms, or a Boolean

    static final class Fraction {
        final BigInteger above;
        final BigInteger below;

        Fraction(BigInteger a, BigInteger b) {
            BigInteger common = a.gcd(b);
            if (b.signum() < 0) {
                common = common.negate();
            }
            above = a.divide(common);
            below = b.divide(common);
        }

        boolean isWhole() {
            return below.equals(BigInteger.ONE);
        }

        int order(Fraction other) {
            return above.multiply(other.below).compareTo(other.above.multiply(below));
        }
    }

    static final class Model {
        final int length;
        Map<String, Object> consts = new HashMap<>();
        Map<String, Rule> formulas = new HashMap<>();
        Map<String, Integer> vars = new LinkedHashMap<>();
        Map<String, Boolean> formulaIsTruth = new HashMap<>();
        List<int[]> ranges = new ArrayList<>();
        List<Boolean> bools = new ArrayList<>();
        List<Item> commands = new ArrayList<>();
        Rule target;
        // What exploring works with.
        int[] values;
        Map<String, Object> met = new HashMap<>();

        Model(String s) {
            length = s.length();
            List<Item> items = new Reader(s).text();
            for (Item item : items) {
                look(item);
                workOut(item);
            }
            if (target == null) {
                throw new Fault(10, length);
            }
        }

        boolean known(String name) {
            return consts.containsKey(name) || formulas.containsKey(name) || vars.containsKey(name);
        }

        void look(Item item) {
            boolean command = item.sort.equals("max") || item.sort.equals("min");
            if (item.sort.equals("target")) {
                if (target != null) {
                    throw new Fault(4, item.place);
                }
                wholeRule(item.rule, true, false);
                return;
            }
            boolean many = command ? commands.size() == 60
                : item.sort.equals("var") ? vars.size() == 12 : consts.size() + formulas.size() == 60;
            if (many) {
                throw new Fault(5, item.place);
            }
            if (command) {
                wholeRule(item.rule, true, false);
                lookBranches(item);
                return;
            }
            if (known(item.name)) {
                throw new Fault(2, item.namePlace);
            }
            if (!item.sort.equals("var")) {
                isTruth(item.rule, item.sort.equals("const"));
                return;
            }
            if (!item.bool) {
                wholeRule(item.rule, false, true);
                wholeRule(item.high, false, true);
            }
            if (item.init != null) {
                wholeRule(item.init, item.bool, true);
            }
        }

        void lookBranches(Item item) {
            int count = 0;
            for (Branch branch : item.branches) {
                if (++count > 8) {
                    throw new Fault(5, branch.firstWord);
                }
                wholeRule(branch.chance, false, false);
                List<String> had = new ArrayList<>();
                for (SetTo set : branch.sets) {
                    if (!vars.containsKey(set.name)) {
                        throw new Fault(2, set.namePlace);
                    }
                    if (had.contains(set.name)) {
                        throw new Fault(4, set.namePlace);
                    }
                    had.add(set.name);
                    wholeRule(set.rule, bools.get(vars.get(set.name)), false);
                }
            }
        }

        void wholeRule(Rule rule, boolean truth, boolean constsOnly) {
            if (isTruth(rule, constsOnly) != truth) {
                throw new Fault(3, rule.firstWord);
            }
        }

        /** Looks at a rule: whether it is a truth. */
        boolean isTruth(Rule rule, boolean constsOnly) {
            List<Boolean> kinds = new ArrayList<>();
            for (Rule part : rule.parts) {
                kinds.add(isTruth(part, constsOnly));
            }
            boolean fits;
            boolean truth;
            switch (rule.does) {
                case "number":
                    return false;
                case "true":
                case "false":
                    return true;
                case "name":
                    return nameIsTruth(rule, constsOnly);
                case "?":
                    fits = kinds.get(0) && kinds.get(1).equals(kinds.get(2));
                    truth = kinds.get(1);
                    break;
                case "|":
                case "&":
                case "!":
                    fits = !kinds.contains(false);
                    truth = true;
                    break;
                case "=":
                case "!=":
                    fits = kinds.get(0).equals(kinds.get(1));
                    truth = true;
                    break;
                case "<":
                case "<=":
                case ">":
                case ">=":
                    fits = !kinds.contains(true);
                    truth = true;
                    break;
                default:
                    fits = !kinds.contains(true);
                    truth = false;
                    break;
            }
            if (!fits) {
                throw new Fault(3, rule.place);
            }
            return truth;
        }

        boolean nameIsTruth(Rule rule, boolean constsOnly) {
            if (consts.containsKey(rule.text)) {
                return consts.get(rule.text) instanceof Boolean;
            }
            if (constsOnly || !known(rule.text)) {
                throw new Fault(2, rule.place);
            }
            if (formulas.containsKey(rule.text)) {
                return formulaIsTruth.get(rule.text);
            }
            return bools.get(vars.get(rule.text));
        }

        void workOut(Item item) {
            switch (item.sort) {
                case "const":
                    consts.put(item.name, value(item.rule));
                    break;
                case "formula":
                    formulaIsTruth.put(item.name, isTruth(item.rule, false));
                    formulas.put(item.name, item.rule);
                    break;
                case "var":
                    workOutVar(item);
                    break;
                case "target":
                    target = item.rule;
                    break;
                default:
                    commands.add(item);
                    break;
            }
        }

        void workOutVar(Item item) {
            int[] range = {0, 1, 0};
            if (item.bool) {
                if (item.init != null && (Boolean) value(item.init)) {
                    range[2] = 1;
                }
            } else {
                range[0] = whole(item.rule);
                range[1] = whole(item.high);
                if (range[0] > range[1] || range[1] - range[0] + 1 > 10000) {
                    throw new Fault(9, item.high.firstWord);
                }
                range[2] = range[0];
                if (item.init != null) {
                    range[2] = whole(item.init);
                    if (range[2] < range[0] || range[2] > range[1]) {
                        throw new Fault(9, item.init.firstWord);
                    }
                }
            }
            vars.put(item.name, vars.size());
            ranges.add(range);
            bools.add(item.bool);
        }

        int whole(Rule rule) {
            Fraction found = (Fraction) value(rule);
            if (!found.isWhole()) {
                throw new Fault(8, rule.firstWord);
            }
            return found.above.intValueExact();
        }

        boolean truth(Rule rule) {
            return (Boolean) value(rule);
        }

        Object value(Rule rule) {
            switch (rule.does) {
                case "number":
                    return new Fraction(new BigInteger(rule.text), BigInteger.ONE);
                case "true":
                    return true;
                case "false":
                    return false;
                case "name":
                    return nameValue(rule.text);
                case "?":
                    return value(rule.parts.get(truth(rule.parts.get(0)) ? 1 : 2));
                case "|":
                    return truth(rule.parts.get(0)) || truth(rule.parts.get(1));
                case "&":
                    return truth(rule.parts.get(0)) && truth(rule.parts.get(1));
                case "!":
                    return !truth(rule.parts.get(0));
                default:
                    return operation(rule);
            }
        }

        Object nameValue(String name) {
            if (consts.containsKey(name)) {
                return consts.get(name);
            }
            if (formulas.containsKey(name)) {
                if (!met.containsKey(name)) {
                    met.put(name, value(formulas.get(name)));
                }
                return met.get(name);
            }
            int var = vars.get(name);
            if (bools.get(var)) {
                return values[var] == 1;
            }
            return new Fraction(BigInteger.valueOf(values[var]), BigInteger.ONE);
        }

        Object operation(Rule rule) {
            List<Object> had = new ArrayList<>();
            for (Rule part : rule.parts) {
                had.add(value(part));
            }
            if (had.get(0) instanceof Boolean) {
                return had.get(0).equals(had.get(1)) == rule.does.equals("=");
            }
            Fraction a = (Fraction) had.get(0);
            if (rule.does.equals("least") || rule.does.equals("most")) {
                for (Object other : had) {
                    int order = ((Fraction) other).order(a);
                    if (rule.does.equals("least") ? order < 0 : order > 0) {
                        a = (Fraction) other;
                    }
                }
                return a;
            }
            if (rule.does.equals("negate")) {
                return new Fraction(a.above.negate(), a.below);
            }
            Fraction b = (Fraction) had.get(1);
            switch (rule.does) {
                case "=":
                    return a.order(b) == 0;
                case "!=":
                    return a.order(b) != 0;
                case "<":
                    return a.order(b) < 0;
                case "<=":
                    return a.order(b) <= 0;
                case ">":
                    return a.order(b) > 0;
                case ">=":
                    return a.order(b) >= 0;
                default:
                    return reckon(rule, a, b);
            }
        }

        Fraction reckon(Rule rule, Fraction a, Fraction b) {
            BigInteger cross = a.above.multiply(b.below);
            BigInteger other = b.above.multiply(a.below);
            BigInteger under = a.below.multiply(b.below);
            Fraction made;
            switch (rule.does) {
                case "+":
                    made = new Fraction(cross.add(other), under);
                    break;
                case "-":
                    made = new Fraction(cross.subtract(other), under);
                    break;
                case "*":
                    made = new Fraction(a.above.multiply(b.above), under);
                    break;
                case "/":
                    if (b.above.signum() == 0) {
                        throw new Fault(7, rule.place);
                    }
                    made = new Fraction(cross, other);
                    break;
                default:
                    if (!a.isWhole() || !b.isWhole()) {
                        throw new Fault(8, rule.place);
                    }
                    if (b.above.signum() <= 0) {
                        throw new Fault(7, rule.place);
                    }
                    made = new Fraction(a.above.mod(b.above), BigInteger.ONE);
                    break;
            }
            if (made.above.abs().compareTo(LARGE) >= 0 || made.below.compareTo(LARGE) >= 0) {
                throw new Fault(6, rule.place);
            }
            return made;
        }
    }

    // ---- states

    static final class Play {
        final Model model;
        final List<int[]> states = new ArrayList<>();
        final Map<List<Integer>, Integer> numbers = new HashMap<>();
        final List<Integer> kinds = new ArrayList<>();
        final List<List<Integer>> commands = new ArrayList<>();
        final List<List<LinkedHashMap<Integer, Fraction>>> branches = new ArrayList<>();
        int allBranches = 0;
        int looking = 0;

        Play(Model model) {
            this.model = model;
        }

        void run() {
            int[] first = new int[model.ranges.size()];
            for (int v = 0; v < first.length; v++) {
                first[v] = model.ranges.get(v)[2];
            }
            number(first, -1);
            for (looking = 0; looking < states.size(); looking++) {
                look();
            }
        }

        int number(int[] values, int place) {
            List<Integer> key = new ArrayList<>();
            for (int value : values) {
                key.add(value);
            }
            if (numbers.containsKey(key)) {
                return numbers.get(key);
            }
            if (states.size() == 512) {
                throw new Fault(5, place);
            }
            numbers.put(key, states.size());
            states.add(values);
            return states.size() - 1;
        }

        void look() {
            model.values = states.get(looking);
            model.met.clear();
            kinds.add(0);
            commands.add(new ArrayList<>());
            branches.add(new ArrayList<>());
            if (model.truth(model.target)) {
                kinds.set(looking, 3);
                return;
            }
            for (int c = 0; c < model.commands.size(); c++) {
                Item command = model.commands.get(c);
                if (model.truth(command.rule)) {
                    int player = command.sort.equals("max") ? 1 : 2;
                    if (kinds.get(looking) == 3 - player) {
                        throw new Fault(13, command.place);
                    }
                    kinds.set(looking, player);
                    commands.get(looking).add(c);
                    branches.get(looking).add(follow(command));
                }
            }
        }

        LinkedHashMap<Integer, Fraction> follow(Item command) {
            List<Fraction> chances = new ArrayList<>();
            for (Branch branch : command.branches) {
                Fraction chance = (Fraction) model.value(branch.chance);
                if (chance.above.signum() < 0 || chance.above.compareTo(chance.below) > 0) {
                    throw new Fault(11, branch.firstWord);
                }
                chances.add(chance);
            }
            BigInteger multiple = BigInteger.ONE;
            Fraction sum = new Fraction(BigInteger.ZERO, BigInteger.ONE);
            for (Fraction chance : chances) {
                multiple = multiple.multiply(chance.below).divide(multiple.gcd(chance.below));
                sum = sum(sum, chance);
            }
            if (multiple.compareTo(LARGE) >= 0) {
                throw new Fault(6, command.place);
            }
            if (!sum.above.equals(sum.below)) {
                throw new Fault(11, command.place);
            }
            LinkedHashMap<Integer, Fraction> led = new LinkedHashMap<>();
            for (int b = 0; b < chances.size(); b++) {
                if (chances.get(b).above.signum() != 0) {
                    int goal = goal(command.branches.get(b));
                    if (led.containsKey(goal)) {
                        led.put(goal, sum(led.get(goal), chances.get(b)));
                    } else if (++allBranches > 4096) {
                        throw new Fault(5, command.place);
                    } else {
                        led.put(goal, chances.get(b));
                    }
                }
            }
            return led;
        }

        static Fraction sum(Fraction a, Fraction b) {
            return new Fraction(a.above.multiply(b.below).add(b.above.multiply(a.below)), a.below.multiply(b.below));
        }

        int goal(Branch branch) {
            int[] values = model.values.clone();
            for (SetTo set : branch.sets) {
                int var = model.vars.get(set.name);
                Object to = model.value(set.rule);
                if (to instanceof Boolean) {
                    values[var] = (Boolean) to ? 1 : 0;
                    continue;
                }
                Fraction number = (Fraction) to;
                if (!number.isWhole()) {
                    throw new Fault(8, set.open);
                }
                int value = number.above.intValueExact();
                if (value < model.ranges.get(var)[0] || value > model.ranges.get(var)[1]) {
                    throw new Fault(12, set.open);
                }
                values[var] = value;
            }
            return number(values, branch.firstWord);
        }
    }

    // ---- random texts

    static final class Maker {
        final Random random;
        final List<String> numberConsts = new ArrayList<>();
        final List<String> truthConsts = new ArrayList<>();
        final List<String> numbers = new ArrayList<>();
        final List<String> truths = new ArrayList<>();
        final List<String> vars = new ArrayList<>();
        final List<Boolean> bools = new ArrayList<>();
        final List<Integer> lows = new ArrayList<>();
        final List<Integer> highs = new ArrayList<>();
        int names = 0;
        int slips;

        Maker(long seed, int slips) {
            random = new Random(seed);
            this.slips = slips;
        }

        boolean one(int of) {
            return random.nextInt(of) == 0;
        }

        /** Now and then something that may be wrong. */
        boolean slip() {
            return slips > 0 && random.nextInt(slips) == 0;
        }

        String pick(List<String> all, String otherwise) {
            return all.isEmpty() ? otherwise : all.get(random.nextInt(all.size()));
        }

        String literal() {
            if (one(40)) {
                return "" + (999999999 - random.nextInt(3));
            }
            if (one(20)) {
                return "" + random.nextInt(100000);
            }
            return "" + random.nextInt(one(3) ? 10 : 4);
        }

        String any(int depth, boolean constsOnly) {
            return one(2) ? number(depth, constsOnly) : truth(depth, constsOnly);
        }

        String number(int depth, boolean constsOnly) {
            if (slip()) {
                return slip() ? "unknown" : truth(depth - 1, constsOnly && !one(3));
            }
            if (depth <= 0 || one(4)) {
                return one(3) ? literal() : pick(constsOnly ? numberConsts : numbers, literal());
            }
            String a = number(depth - 1, constsOnly);
            switch (random.nextInt(13)) {
                case 0:
                case 1:
                    return a + gap() + "+" + gap() + number(depth - 1, constsOnly);
                case 2:
                case 3:
                    return a + gap() + "-" + gap() + number(depth - 1, constsOnly);
                case 4:
                    return a + "*" + number(depth - 1, constsOnly);
                case 5:
                    return a + "/" + (one(3) ? number(depth - 1, constsOnly) : "" + (1 + random.nextInt(5)));
                case 6:
                    return a + " % " + (one(3) ? number(depth - 1, constsOnly) : "" + (1 + random.nextInt(5)));
                case 7:
                    return "-" + gap() + a;
                case 8:
                case 9:
                    return "(" + gap() + a + ")";
                case 10:
                    return "(" + truth(depth - 1, constsOnly) + " ? " + a + ":" + number(depth - 1, constsOnly) + ")";
                default:
                    StringBuilder list = new StringBuilder(one(2) ? "least(" : "most (").append(a);
                    for (int i = random.nextInt(4); i > 0; i--) {
                        list.append(',').append(number(depth - 1, constsOnly));
                    }
                    return list.append(')').toString();
            }
        }

        String truth(int depth, boolean constsOnly) {
            if (slip()) {
                return slip() ? "unknown" : number(depth - 1, constsOnly && !one(3));
            }
            if (depth <= 0 || one(6)) {
                return one(3) ? (one(2) ? "true" : "false") : pick(constsOnly ? truthConsts : truths, "true");
            }
            String[] compares = {"=", "!=", "<", "<=", ">", ">="};
            switch (random.nextInt(9)) {
                case 0:
                case 1:
                case 2:
                    return number(depth - 1, constsOnly) + gap() + compares[random.nextInt(6)] + gap()
                        + number(depth - 1, constsOnly);
                case 3:
                    return truth(depth - 1, constsOnly) + "&" + truth(depth - 1, constsOnly);
                case 4:
                    return truth(depth - 1, constsOnly) + gap() + "|" + truth(depth - 1, constsOnly);
                case 5:
                    return "!" + truth(depth - 1, constsOnly);
                case 6:
                    return "(" + truth(depth - 1, constsOnly) + gap() + ")";
                case 7:
                    return "(" + truth(depth - 1, constsOnly) + (one(2) ? ") = (" : ")!=(")
                        + truth(depth - 1, constsOnly) + ")";
                default:
                    return "(" + truth(depth - 1, constsOnly) + "?" + truth(depth - 1, constsOnly) + " : "
                        + truth(depth - 1, constsOnly) + ")";
            }
        }

        String gap() {
            switch (random.nextInt(12)) {
                case 0:
                    return "\n";
                case 1:
                    return "\t \r";
                case 2:
                    return one(4) ? "# note; (\n" : " ";
                case 3:
                case 4:
                    return "";
                default:
                    return " ";
            }
        }

        String newName() {
            if (slip() && names > 0) {
                return "n" + random.nextInt(names);
            }
            return "n" + names++;
        }

        String constItem() {
            String name = newName();
            boolean number = !one(3);
            String made = "const " + name + " =" + gap() + (number ? number(2, true) : truth(2, true)) + ";";
            (number ? numberConsts : truthConsts).add(name);
            (number ? numbers : truths).add(name);
            return made;
        }

        String formulaItem() {
            String name = newName();
            boolean number = one(2);
            String made = "formula " + name + gap() + "=" + (number ? number(3, false) : truth(3, false)) + ";";
            (number ? numbers : truths).add(name);
            return made;
        }

        String varItem() {
            String name = newName();
            boolean bool = one(3);
            int low = random.nextInt(5) - 2;
            int high = low + random.nextInt(7);
            String type;
            if (bool) {
                type = "bool";
            } else if (slip()) {
                type = number(1, true) + ".." + number(1, true);
            } else {
                type = low + " .. " + high;
            }
            String init = "";
            if (one(2)) {
                init = " init " + (bool ? truth(1, true) : slip() ? number(1, true)
                    : "" + (low + random.nextInt(high - low + 1)));
            }
            vars.add(name);
            bools.add(bool);
            lows.add(low);
            highs.add(high);
            (bool ? truths : numbers).add(name);
            return "var " + name + gap() + ":" + gap() + type + init + gap() + ";";
        }

        String set(int var) {
            String name = vars.get(var);
            String to;
            if (bools.get(var)) {
                to = one(2) ? "!" + name : truth(2, false);
            } else if (slip()) {
                to = number(2, false);
            } else if (one(3)) {
                to = "least(most(" + lows.get(var) + ",(" + number(1, false) + ")*1)," + highs.get(var) + ")";
            } else if (one(2)) {
                to = "most(" + lows.get(var) + "," + name + "-1)";
            } else {
                to = "(" + name + "-" + lows.get(var) + "+" + (1 + random.nextInt(2)) + ")%"
                    + (highs.get(var) - lows.get(var) + 1) + "+" + lows.get(var);
            }
            return "(" + gap() + name + "'=" + to + ")";
        }

        String action() {
            if (vars.isEmpty() || one(6)) {
                return "stay";
            }
            StringBuilder sets = new StringBuilder();
            int from = random.nextInt(vars.size());
            int count = 1 + random.nextInt(Math.min(3, vars.size()));
            for (int i = 0; i < count; i++) {
                int var = slip() ? from : (from + i) % vars.size();
                sets.append(i == 0 ? "" : gap() + "&").append(set(var));
            }
            return sets.toString();
        }

        String[] chances() {
            String n = pick(numbers, "1");
            String c = pick(numberConsts, "1/3");
            switch (random.nextInt(slip() ? 9 : 7)) {
                case 0:
                case 1:
                    return new String[] {"1"};
                case 2:
                    return new String[] {"1/2", "1/2"};
                case 3:
                    return new String[] {"1/3", "0", "1/6", "1/2"};
                case 4:
                    return new String[] {"least(1,most(0," + n + "/4))", "1-least(1,most(0," + n + "/4))"};
                case 5:
                    return new String[] {"1/4", "1/4", "1/8", "1/8", "1/8", "1/8"};
                case 6:
                    return new String[] {"least(1,most(0," + c + "))", "1 - most(0,least(1," + c + "))"};
                case 7:
                    return new String[] {number(2, false), number(2, false)};
                default:
                    return new String[] {"1/99991", "99990/99991", "0/1", "1/10007-1/10007"};
            }
        }

        String commandItem(String player) {
            StringBuilder made = new StringBuilder(player + " ");
            made.append(one(3) ? truth(3, false) : truth(1, false)).append(gap()).append("->");
            String[] chances = chances();
            for (int i = 0; i < chances.length; i++) {
                made.append(i == 0 ? gap() : gap() + "+").append(chances[i]).append(":").append(action());
            }
            return made.append(";").toString();
        }

        String text() {
            StringBuilder all = new StringBuilder();
            boolean onePlayer = one(2);
            boolean targeted = false;
            for (int i = 1 + random.nextInt(3); i > 0; i--) {
                all.append(varItem()).append(gap());
            }
            for (int i = 2 + random.nextInt(9); i > 0; i--) {
                switch (random.nextInt(7)) {
                    case 0:
                        all.append(constItem());
                        break;
                    case 1:
                        all.append(formulaItem());
                        break;
                    case 2:
                        all.append(varItem());
                        break;
                    case 3:
                        if (!targeted || slip()) {
                            all.append("target ").append(one(4) ? "false" : truth(2, false)).append(";");
                            targeted = true;
                        }
                        break;
                    default:
                        all.append(commandItem(onePlayer || one(2) ? "max" : "min"));
                        break;
                }
                all.append(gap());
            }
            if (!targeted && !one(30)) {
                all.append("target ").append(one(2) ? "false" : truth(1, false)).append(";");
            }
            return all.toString();
        }

        /** A rule with about so many levels around what is in its middle. */
        String deep(int levels, boolean number) {
            String made = number ? "3" : "true";
            for (int i = 0; i < levels; i++) {
                made = number ? deeperNumber(made) : deeperTruth(made);
                if (one(30)) {
                    made = number ? made + "<2" : "(" + made + "?1:0)";
                    number = !number;
                }
            }
            return made;
        }

        String deeperNumber(String made) {
            switch (random.nextInt(8)) {
                case 0:
                    return "-" + made;
                case 1:
                    return "most(0," + made + ",2)";
                case 2:
                    return "least(" + made + ")";
                case 3:
                    return "(true?" + made + ":-1)";
                case 4:
                    return "(2=1?0:" + made + ")";
                case 5:
                    return "1-(" + made + ")/2";
                default:
                    return "(" + made + ")";
            }
        }

        String deeperTruth(String made) {
            switch (random.nextInt(8)) {
                case 0:
                case 1:
                    return "!" + made;
                case 2:
                    return "true?" + made + ":false";
                case 3:
                    return "false?true:" + made;
                case 4:
                    return "!false&(" + made + ")|true";
                case 5:
                    return "(" + made + "?true:false)";
                default:
                    return "(" + made + ")";
            }
        }

        String deepText() {
            int levels = 30 + random.nextInt(14);
            switch (random.nextInt(6)) {
                case 0:
                    return "target true;const c=" + deep(levels, one(2)) + ";";
                case 1:
                    return "target " + deep(levels, false) + ";";
                case 2:
                    return "var x:" + deep(levels, true) + "..9;target true;";
                case 3:
                    return "target false;max true->" + deep(levels, true) + ":stay;";
                case 4:
                    return "var x:0..5;target false;max x=0->1:(x'=" + deep(levels, true) + ");";
                default:
                    return "var x:bool init " + deep(levels, false) + ";target x;formula f=" + deep(levels, true) + ";";
            }
        }

        /** Words in any order, which begin as a text may. */
        String soup() {
            String[] bits = {"(", ")", "-", "!", "?", ":", "+", "&", "|", "=", "!=", "<", "x", "1", "true", "least(",
                ",", "*", "%", "most(", "2"};
            String[] heads = {"const c=", "formula f=", "var x:", "target ", "max ", "var x:0..3;min true->", "min 1=1->1:"};
            StringBuilder made = new StringBuilder(heads[random.nextInt(heads.length)]);
            for (int i = random.nextInt(14); i > 0; i--) {
                made.append(bits[random.nextInt(bits.length)]).append(one(4) ? " " : "");
            }
            return made.append(one(2) ? ";" : "").toString();
        }

        /** The text with a word put in, left out or changed. */
        String spoilt(String text) {
            String[] bits = {"(", ")", "-", "!", "?", ":", ";", "+", "&", "|", "=", "!=", "<=", "..", "->", ".", "'",
                ",", "init", "stay", "least", "most(", "true", "false", "max", "min", "target", "const", "var", "bool",
                "n0", "n1", "7", "1234567890", "@", "%", "/", "*", "#", "formula", "0", "[", "\u0000", "\u00ff",
                "abcdefghijklmnopqrstuvwxyzabcdefghijklmno", "_"};
            int at = random.nextInt(text.length() + 1);
            int to = Math.min(text.length(), at + random.nextInt(3));
            String bit = one(3) ? "" : bits[random.nextInt(bits.length)];
            return text.substring(0, at) + (one(2) ? " " + bit + " " : bit) + text.substring(to);
        }
    }

    // ---- both beside each other

    private static final int[] COMPILED = new int[16];
    private static final int[] EXPLORED = new int[16];
    private static int states = 0;

    static Model compare(GameText game, String text, Model before) {
        int fault = 0;
        int place = -1;
        Model model = before;
        try {
            model = new Model(text);
        } catch (Fault f) {
            fault = f.fault;
            place = f.place;
        }
        Check.feed(game, text);
        int got = game.compile();
        Check.due("compile() of " + text + "\n", fault, got);
        Check.due("place() of " + text + "\n", place, game.place());
        COMPILED[fault]++;
        if (model != null) {
            Check.due("items(0) of " + text + "\n", model.vars.size(), game.items(0));
            Check.due("items(1) of " + text + "\n", model.consts.size() + model.formulas.size(), game.items(1));
            Check.due("items(2) of " + text + "\n", model.commands.size(), game.items(2));
        }
        if (fault == 0 && got == 0) {
            compareStates(game, text, model);
        }
        return model;
    }

    static void compareStates(GameText game, String text, Model model) {
        Play play = new Play(model);
        int fault = 0;
        int place = -1;
        int state = -1;
        try {
            play.run();
        } catch (Fault f) {
            fault = f.fault;
            place = f.place;
            state = play.looking;
        }
        Check.due("explore() of " + text + "\n", fault, game.explore());
        Check.due("place() of " + text + "\n", place, game.place());
        Check.due("state() of " + text + "\n", state, game.state());
        Check.due("states() of " + text + "\n", fault == 0 ? play.states.size() : 0, game.states());
        EXPLORED[fault]++;
        if (fault != 0) {
            return;
        }
        states += play.states.size();
        for (int k = 0; k < play.states.size(); k++) {
            compareState(game, text + "\nstate " + k, play, k);
        }
    }

    static void compareState(GameText game, String where, Play play, int k) {
        int[] values = play.states.get(k);
        for (int v = 0; v < values.length; v++) {
            Check.due("variable " + v + " of " + where, values[v], game.variable(k, v));
        }
        Check.due("kind of " + where, play.kinds.get(k), game.kind(k));
        List<Integer> commands = play.commands.get(k);
        Check.due("commands of " + where, commands.size(), game.commands(k));
        Check.due("a command too many of " + where, -1, game.command(k, commands.size()));
        for (int i = 0; i < commands.size(); i++) {
            Check.due("command " + i + " of " + where, commands.get(i), game.command(k, i));
            LinkedHashMap<Integer, Fraction> branches = play.branches.get(k).get(i);
            Check.due("branches " + i + " of " + where, branches.size(), game.branches(k, i));
            int j = 0;
            for (Map.Entry<Integer, Fraction> branch : branches.entrySet()) {
                Check.due("goal " + i + " " + j + " of " + where, branch.getKey(), game.branch(k, i, j, 0));
                Check.due("above " + i + " " + j + " of " + where, branch.getValue().above.longValueExact(),
                    game.branch(k, i, j, 1));
                Check.due("below " + i + " " + j + " of " + where, branch.getValue().below.longValueExact(),
                    game.branch(k, i, j, 2));
                j++;
            }
            Check.due("a branch too many of " + where, -1, game.branch(k, i, j, 0));
        }
    }

    public static void main(String[] args) {
        int runs = args.length > 0 ? Integer.parseInt(args[0]) : 6000;
        long seed = args.length > 1 ? Long.parseLong(args[1]) : 20261115L;
        GameText game = new GameText();
        Model model = null;
        for (int run = 0; run < runs; run++) {
            // A few texts on one object: what one leaves behind must not reach the next.
            if (run % 5 == 0) {
                game = new GameText();
                model = null;
            }
            Maker maker = new Maker(seed + run, run % 3 == 0 ? 0 : run % 3 == 1 ? 60 : 15);
            String text = maker.text();
            model = compare(game, text, model);
            if (run % 2 == 0) {
                model = compare(game, maker.spoilt(text), model);
            }
            model = compare(game, maker.deepText(), model);
            model = compare(game, maker.soup(), model);
        }
        if (args.length > 0) {
            System.out.println("compiled " + Arrays.toString(COMPILED) + ", explored " + Arrays.toString(EXPLORED)
                + ", states " + states);
        }
        Check.finish("OracleTest");
    }
}
