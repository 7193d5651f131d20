import java.util.ArrayList;
import java.util.Collections;
import java.util.List;
import java.util.Map;
import java.util.TreeMap;
import java.util.TreeSet;

/** The document once more, word by word and without regard to cost: what random runs are compared with. */
final class Oracle {
    static final class Fault extends Exception {
        private static final long serialVersionUID = 1L;
        final int answer;

        Fault(int number, int place) {
            super("fault " + number + " at " + place, null, false, false);
            answer = -1000 * number - place;
        }
    }

    static final class Refused extends Exception {
        private static final long serialVersionUID = 1L;

        Refused() {
            super("divided by 0", null, false, false);
        }
    }

    interface Num {
        int of(Map<Character, Integer> letters) throws Refused;
    }

    interface Cond {
        boolean of(Map<Character, Integer> letters) throws Refused;
    }

    record Rule(char head, Num value, Cond condition) { }

    record Fact(int[] sides, int measure) { }

    record Form(int[] levels, List<TreeSet<Integer>> lets, String letters) { }

    static final class Made {
        Form form;
        int upto;
        TreeMap<Integer, List<Integer>> groups = new TreeMap<>();

        Made copy() {
            Made copy = new Made();
            copy.form = form;
            copy.upto = upto;
            copy.groups = groups;
            return copy;
        }
    }

    private List<Integer> tape = new ArrayList<>();
    private List<Rule> rules = new ArrayList<>();
    private List<Fact> facts = new ArrayList<>();
    private List<Made> summaries = new ArrayList<>();
    private int[][] coarse = new int[3][8];
    private Form question;
    private int x = 1;
    private List<Fact> keptFacts;
    private List<Made> keptSummaries;
    private int keptX;
    private boolean shaped;

    Oracle() {
        for (int side = 0; side < 3; side++) {
            for (int value = 0; value < 8; value++) {
                coarse[side][value] = value / 2;
            }
        }
    }

    // ---- facts

    int next() {
        x = (int) ((25173L * x + 13849L) % 65536L);
        return x;
    }

    int fact(int a, int b, int c, int measure) {
        for (int v : new int[] {a, b, c}) {
            if (v < 0 || v > 7) {
                return -1;
            }
        }
        if (measure < 0 || measure > 99) {
            return -1;
        }
        if (facts.size() == 240) {
            return -3;
        }
        return come(a, b, c, measure) ? facts.size() - 1 : -6;
    }

    boolean come(int a, int b, int c, int measure) {
        Map<Character, Integer> letters = new TreeMap<>();
        letters.put('w', next() % 10);
        letters.put('a', a);
        letters.put('b', b);
        letters.put('c', c);
        letters.put('m', measure);
        letters.put('n', facts.size() % 100);
        letters.put('k', summaries.size());
        for (Rule rule : rules) {
            if (rule.head == 'x' && holds(rule, letters)) {
                return false;
            }
        }
        int taken = measure;
        for (Rule rule : rules) {
            if (rule.head == 'm' && holds(rule, letters)) {
                taken = Math.max(0, Math.min(99, value(rule, letters)));
                break;
            }
        }
        int anew = -1;
        for (Rule rule : rules) {
            if (rule.head == 'u' && holds(rule, letters)) {
                anew = value(rule, letters);
                break;
            }
        }
        facts.add(new Fact(new int[] {a, b, c}, taken));
        if (anew >= 0 && anew < summaries.size()) {
            make(summaries.get(anew));
        }
        return true;
    }

    static boolean holds(Rule rule, Map<Character, Integer> letters) {
        try {
            return rule.condition.of(letters);
        } catch (Refused refused) {
            return false;
        }
    }

    static int value(Rule rule, Map<Character, Integer> letters) {
        try {
            return rule.value.of(letters);
        } catch (Refused refused) {
            return 0;
        }
    }

    int draws(int n) {
        if (n < 1 || n > 60) {
            return -1;
        }
        int taken = 0;
        for (int i = 0; i < n; i++) {
            if (facts.size() == 240) {
                break;
            }
            int a = next() % 8;
            int b = next() % 8;
            int c = next() % 8;
            int measure = next() % 100;
            taken += come(a, b, c, measure) ? 1 : 0;
        }
        return taken;
    }

    // ---- the tape and its texts

    int feed(int a, int b, int c, int d, int e) {
        if (tape.size() + 20 > 260) {
            return -1;
        }
        for (int word : new int[] {a, b, c, d, e}) {
            for (int i = 3; i >= 0; i--) {
                tape.add((int) ((word & 0xffffffffL) >> (8 * i) & 255));
            }
        }
        return tape.size();
    }

    private char[] text;
    private int at;

    private boolean cut(int n, int most) {
        if (n < 1 || n > most || n > tape.size()) {
            return false;
        }
        text = new char[n];
        for (int i = 0; i < n; i++) {
            text[i] = (char) (int) tape.get(i);
        }
        at = 0;
        tape.clear();
        return true;
    }

    private char sign() {
        return at < text.length ? text[at] : '\uffff';
    }

    private char oneOf(String signs) throws Fault {
        if (signs.indexOf(sign()) < 0) {
            throw new Fault(1, at);
        }
        return text[at++];
    }

    int law(int n) {
        if (!cut(n, 240)) {
            return -1;
        }
        try {
            List<Rule> read = new ArrayList<>();
            while (true) {
                int place = at;
                char head = oneOf("mux");
                if (read.size() == 16) {
                    throw new Fault(4, place);
                }
                Num value = head == 'x' ? null : expression(0);
                oneOf("(");
                Cond condition = condition(1);
                oneOf(")");
                read.add(new Rule(head, value, condition));
                if (at == text.length) {
                    break;
                }
                oneOf(";");
            }
            rules = read;
            return rules.size();
        } catch (Fault fault) {
            return fault.answer;
        }
    }

    private Cond condition(int open) throws Fault {
        Cond left = part(open);
        while (sign() == '|') {
            at++;
            Cond before = left;
            Cond right = part(open);
            left = letters -> before.of(letters) || right.of(letters);
        }
        return left;
    }

    private Cond part(int open) throws Fault {
        Cond left = test(open);
        while (sign() == '&') {
            at++;
            Cond before = left;
            Cond right = test(open);
            left = letters -> before.of(letters) && right.of(letters);
        }
        return left;
    }

    private Cond test(int open) throws Fault {
        if (sign() == '!' || sign() == '(') {
            if (open == 6) {
                throw new Fault(5, at);
            }
            if (text[at++] == '!') {
                Cond inner = test(open + 1);
                return letters -> !inner.of(letters);
            }
            Cond inner = condition(open + 1);
            oneOf(")");
            return inner;
        }
        Num left = expression(open);
        char op = oneOf("<>=");
        Num right = expression(open);
        return letters -> {
            int l = left.of(letters);
            int r = right.of(letters);
            return op == '<' ? l < r : op == '>' ? l > r : l == r;
        };
    }

    private Num expression(int open) throws Fault {
        Num left = term(open);
        while (sign() == '+' || sign() == '-') {
            char op = text[at++];
            Num before = left;
            Num right = term(open);
            left = letters -> op == '+' ? before.of(letters) + right.of(letters) : before.of(letters) - right.of(letters);
        }
        return left;
    }

    private Num term(int open) throws Fault {
        Num left = factor(open);
        while (sign() == '*' || sign() == '/' || sign() == '%') {
            char op = text[at++];
            Num before = left;
            Num right = factor(open);
            left = letters -> {
                int l = before.of(letters);
                int r = right.of(letters);
                if (op == '*') {
                    return l * r;
                }
                if (r == 0) {
                    throw new Refused();
                }
                return op == '/' ? l / r : l % r;
            };
        }
        return left;
    }

    private Num factor(int open) throws Fault {
        char first = sign();
        if (first == '[') {
            if (open == 6) {
                throw new Fault(5, at);
            }
            at++;
            Num inner = expression(open + 1);
            oneOf("]");
            return inner;
        }
        if (first >= '0' && first <= '9') {
            int start = at;
            while (sign() >= '0' && sign() <= '9') {
                if (at - start == 5) {
                    throw new Fault(2, at);
                }
                at++;
            }
            int number = Integer.parseInt(new String(text, start, at - start));
            return letters -> number;
        }
        char letter = oneOf("abcmnkw");
        return letters -> letters.get(letter);
    }

    int shape(int n) {
        if (!cut(n, 60)) {
            return -1;
        }
        try {
            int[][] read = {coarse[0].clone(), coarse[1].clone(), coarse[2].clone()};
            TreeSet<String> told = new TreeSet<>();
            while (true) {
                int place = at;
                char side = oneOf("abc");
                char value = oneOf("01234567");
                if (!told.add("" + side + value)) {
                    throw new Fault(6, place);
                }
                oneOf("=");
                read[side - 'a'][value - '0'] = oneOf("0123") - '0';
                if (at == text.length) {
                    break;
                }
                oneOf(";");
            }
            coarse = read;
            summaries = new ArrayList<>();
            shaped = true;
            return told.size();
        } catch (Fault fault) {
            return fault.answer;
        }
    }

    private int level(int most) throws Fault {
        int place = at;
        int level = oneOf("0123456789") - '0';
        if (level > most) {
            throw new Fault(3, place);
        }
        return level;
    }

    private int[] threeLevels() throws Fault {
        return new int[] {level(2), level(2), level(2)};
    }

    private List<TreeSet<Integer>> spans() throws Fault {
        List<TreeSet<Integer>> lets = new ArrayList<>();
        for (int side = 0; side < 3; side++) {
            lets.add(new TreeSet<>(List.of(0, 1, 2, 3, 4, 5, 6, 7)));
        }
        TreeSet<Integer> told = new TreeSet<>();
        while (at < text.length) {
            oneOf(";");
            int place = at;
            int side = oneOf("abc") - 'a';
            if (!told.add(side)) {
                throw new Fault(6, place);
            }
            int level = level(1);
            oneOf("=");
            int from = oneOf("01234567") - '0';
            oneOf("-");
            int last = at;
            int to = oneOf("01234567") - '0';
            if (from > to) {
                throw new Fault(3, last);
            }
            lets.get(side).removeIf(value -> number(side, level, value) < from || number(side, level, value) > to);
        }
        return lets;
    }

    int summary(int n) {
        if (!cut(n, 80)) {
            return -1;
        }
        try {
            int[] levels = threeLevels();
            oneOf(":");
            StringBuilder parts = new StringBuilder();
            parts.append(oneOf("scnx"));
            while ("scnx".indexOf(sign()) >= 0) {
                if (parts.indexOf("" + sign()) >= 0) {
                    throw new Fault(6, at);
                }
                parts.append(oneOf("scnx"));
            }
            Made made = new Made();
            made.form = new Form(levels, spans(), parts.toString());
            if (summaries.size() == 8) {
                return -3;
            }
            make(made);
            summaries.add(made);
            return summaries.size() - 1;
        } catch (Fault fault) {
            return fault.answer;
        }
    }

    int question(int n) {
        if (!cut(n, 80)) {
            return -1;
        }
        try {
            char what = oneOf("scnxvdm");
            oneOf(":");
            int[] levels = threeLevels();
            question = new Form(levels, spans(), "" + what);
            return answerByFacts().size();
        } catch (Fault fault) {
            return fault.answer;
        }
    }

    int check(int n) {
        if (n < 0 || n > 240 || n > tape.size()) {
            return -2;
        }
        List<Integer> told = new ArrayList<>(tape.subList(0, n));
        tape.clear();
        for (int i = 0; i < n; i++) {
            int measure = i < facts.size() ? facts.get(i).measure : 255;
            if (told.get(i) != measure) {
                return i;
            }
        }
        return -1;
    }

    // ---- groups

    int number(int side, int level, int value) {
        return level == 0 ? value : level == 1 ? coarse[side][value] : 0;
    }

    private static int key(int a, int b, int c) {
        return 100 * a + 10 * b + c;
    }

    private static int digit(int key, int side) {
        return side == 0 ? key / 100 : side == 1 ? key / 10 % 10 : key % 10;
    }

    private boolean lets(Form form, Fact fact) {
        for (int side = 0; side < 3; side++) {
            if (!form.lets.get(side).contains(fact.sides[side])) {
                return false;
            }
        }
        return true;
    }

    private int keyOf(Form form, Fact fact) {
        return key(number(0, form.levels[0], fact.sides[0]), number(1, form.levels[1], fact.sides[1]),
                number(2, form.levels[2], fact.sides[2]));
    }

    private TreeMap<Integer, List<Integer>> gather(Form form, List<Fact> some) {
        TreeMap<Integer, List<Integer>> groups = new TreeMap<>();
        for (Fact fact : some) {
            if (lets(form, fact)) {
                groups.computeIfAbsent(keyOf(form, fact), k -> new ArrayList<>()).add(fact.measure);
            }
        }
        return groups;
    }

    private void make(Made made) {
        made.upto = facts.size();
        made.groups = gather(made.form, facts);
    }

    private static int part(char what, List<Integer> measures) {
        List<Integer> sorted = new ArrayList<>(measures);
        Collections.sort(sorted);
        int sum = 0;
        for (int measure : sorted) {
            sum += measure;
        }
        switch (what) {
            case 's': return sum;
            case 'c': return sorted.size();
            case 'n': return sorted.get(0);
            case 'x': return sorted.get(sorted.size() - 1);
            case 'v': return sum / sorted.size();
            case 'd': return new TreeSet<>(sorted).size();
            default: return sorted.size() % 2 == 1 ? sorted.get(sorted.size() / 2) : sorted.get(sorted.size() / 2 - 1);
        }
    }

    // ---- summaries

    private boolean is(int summary) {
        return summary >= 0 && summary < summaries.size();
    }

    int renew(int summary) {
        if (!is(summary)) {
            return -1;
        }
        int fresh = facts.size() - summaries.get(summary).upto;
        make(summaries.get(summary));
        return fresh;
    }

    boolean drop(int summary) {
        if (!is(summary)) {
            return false;
        }
        summaries.remove(summary);
        return true;
    }

    int coarse(int side, int value) {
        return side < 0 || side > 2 || value < 0 || value > 7 ? -1 : coarse[side][value];
    }

    int factIs(int f, int what) {
        if (f < 0 || f >= facts.size() || what < 0 || what > 3) {
            return -1;
        }
        return what == 3 ? facts.get(f).measure : facts.get(f).sides[what];
    }

    private static int bits(TreeSet<Integer> values) {
        int bits = 0;
        for (int value : values) {
            bits |= 1 << value;
        }
        return bits;
    }

    private int cost(Made made) {
        return made.groups.size() + facts.size() - made.upto;
    }

    int summaryIs(int summary, int what) {
        if (!is(summary)) {
            return -1;
        }
        Made made = summaries.get(summary);
        if (what >= 0 && what <= 2) {
            return made.form.levels[what];
        }
        if (what == 3) {
            int parts = 0;
            for (char part : made.form.letters.toCharArray()) {
                parts += 1 << "scnx".indexOf(part);
            }
            return parts;
        }
        if (what == 4) {
            return made.upto;
        }
        if (what == 5) {
            return made.groups.size();
        }
        if (what == 6) {
            return cost(made);
        }
        return what >= 10 && what <= 12 ? bits(made.form.lets.get(what - 10)) : -1;
    }

    private static int nth(TreeMap<Integer, ?> groups, int i) {
        return new ArrayList<>(groups.keySet()).get(i);
    }

    int group(int summary, int i, int what) {
        if (!is(summary) || i < 0 || what < 0 || what > 6) {
            return -1;
        }
        Made made = summaries.get(summary);
        if (i >= made.groups.size()) {
            return -4;
        }
        int key = nth(made.groups, i);
        if (what < 3) {
            return digit(key, what);
        }
        char part = "scnx".charAt(what - 3);
        return made.form.letters.indexOf(part) < 0 ? -2 : part(part, made.groups.get(key));
    }

    // ---- the question

    int questionIs(int what) {
        if (!(what >= 0 && what <= 3 || what >= 10 && what <= 12)) {
            return -1;
        }
        if (question == null) {
            return -2;
        }
        return what < 3 ? question.levels[what] : what == 3 ? "scnxvdm".indexOf(question.letters)
                : bits(question.lets.get(what - 10));
    }

    private boolean had(char what, String parts) {
        if (what == 'v') {
            return parts.contains("s") && parts.contains("c");
        }
        return parts.indexOf(what) >= 0;
    }

    private boolean coversSides(Form own, Form asked) {
        for (int side = 0; side < 3; side++) {
            if (own.levels[side] > asked.levels[side] || !own.lets.get(side).containsAll(asked.lets.get(side))) {
                return false;
            }
            for (int number = 0; number < 8; number++) {
                TreeSet<Integer> values = valuesOf(own, side, number);
                TreeSet<Integer> inside = new TreeSet<>(values);
                inside.retainAll(asked.lets.get(side));
                if (!inside.isEmpty() && !inside.equals(values)) {
                    return false;
                }
            }
        }
        return true;
    }

    private TreeSet<Integer> valuesOf(Form own, int side, int number) {
        TreeSet<Integer> values = new TreeSet<>();
        for (int value : own.lets.get(side)) {
            if (number(side, own.levels[side], value) == number) {
                values.add(value);
            }
        }
        return values;
    }

    private boolean covers(Made made) {
        return question != null && had(question.letters.charAt(0), made.form.letters) && coversSides(made.form, question);
    }

    int covers(int summary) {
        return !is(summary) ? -1 : question == null ? -2 : covers(summaries.get(summary)) ? 1 : 0;
    }

    private boolean groupInside(Form own, int key) {
        for (int side = 0; side < 3; side++) {
            if (!question.lets.get(side).containsAll(valuesOf(own, side, digit(key, side)))) {
                return false;
            }
        }
        return true;
    }

    int coverIs(int summary, int what) {
        if (!is(summary) || what < 0 || what > 3) {
            return -1;
        }
        Made made = summaries.get(summary);
        if (!covers(made)) {
            return -2;
        }
        int found = 0;
        for (int side = 0; side < 3 && what < 2; side++) {
            boolean yes = what == 1 && made.form.levels[side] < question.levels[side];
            for (int number = 0; number < 8 && what == 0; number++) {
                TreeSet<Integer> values = valuesOf(made.form, side, number);
                yes |= !values.isEmpty() && !question.lets.get(side).containsAll(values);
            }
            found |= yes ? 1 << side : 0;
        }
        if (what == 2) {
            for (Fact fact : facts.subList(made.upto, facts.size())) {
                found += lets(question, fact) ? 1 : 0;
            }
        }
        if (what == 3) {
            for (int key : made.groups.keySet()) {
                found += groupInside(made.form, key) ? 1 : 0;
            }
        }
        return found;
    }

    int way(int what) {
        if (what < 0 || what > 1) {
            return -1;
        }
        if (question == null) {
            return -2;
        }
        int best = -1;
        for (int i = 0; i < summaries.size(); i++) {
            if (covers(summaries.get(i)) && (best < 0 || cost(summaries.get(i)) < cost(summaries.get(best)))) {
                best = i;
            }
        }
        if (best >= 0 && cost(summaries.get(best)) > facts.size()) {
            best = -1;
        }
        if (what == 0) {
            return best < 0 ? -3 : best;
        }
        return best < 0 ? facts.size() : cost(summaries.get(best));
    }

    private TreeMap<Integer, Integer> answerByFacts() {
        TreeMap<Integer, Integer> answer = new TreeMap<>();
        gather(question, facts).forEach((key, measures) -> answer.put(key, part(question.letters.charAt(0), measures)));
        return answer;
    }

    /** Of the parts alone that the summary keeps, each held as (sum, count, least, greatest). */
    private TreeMap<Integer, Integer> answerBySummary(Made made) {
        TreeMap<Integer, int[]> sums = new TreeMap<>();
        made.groups.forEach((key, measures) -> {
            if (groupInside(made.form, key)) {
                int[] to = new int[3];
                for (int side = 0; side < 3; side++) {
                    int value = valuesOf(made.form, side, digit(key, side)).first();
                    to[side] = number(side, question.levels[side], value);
                }
                int[] parts = new int[4];
                for (int p = 0; p < 4; p++) {
                    char part = "scnx".charAt(p);
                    parts[p] = made.form.letters.indexOf(part) < 0 ? -7777 : part(part, measures);
                }
                merge(sums, key(to[0], to[1], to[2]), parts);
            }
        });
        for (Fact fact : facts.subList(made.upto, facts.size())) {
            if (lets(question, fact)) {
                merge(sums, keyOf(question, fact), new int[] {fact.measure, 1, fact.measure, fact.measure});
            }
        }
        TreeMap<Integer, Integer> answer = new TreeMap<>();
        sums.forEach((key, parts) -> {
            int what = "scnxv".indexOf(question.letters);
            answer.put(key, what == 4 ? parts[0] / parts[1] : parts[what]);
        });
        return answer;
    }

    private static void merge(TreeMap<Integer, int[]> sums, int key, int[] parts) {
        int[] before = sums.get(key);
        if (before == null) {
            sums.put(key, parts.clone());
            return;
        }
        before[0] += parts[0];
        before[1] += parts[1];
        before[2] = Math.min(before[2], parts[2]);
        before[3] = Math.max(before[3], parts[3]);
    }

    private static int read(TreeMap<Integer, Integer> answer, List<Integer> order, int i, int what) {
        if (i >= order.size()) {
            return -4;
        }
        int key = order.get(i);
        return what == 3 ? answer.get(key) : digit(key, what);
    }

    int answer(int i, int what) {
        if (i < 0 || what < 0 || what > 3) {
            return -1;
        }
        return question == null ? -2 : answerBy(way(0), i, what);
    }

    int ranked(int i, int what) {
        if (i < 0 || what < 0 || what > 3) {
            return -1;
        }
        if (question == null) {
            return -2;
        }
        int way = way(0);
        TreeMap<Integer, Integer> answer = way == -3 ? answerByFacts() : answerBySummary(summaries.get(way));
        List<Integer> order = new ArrayList<>(answer.keySet());
        order.sort((k, l) -> Integer.compare(answer.get(l), answer.get(k)));
        return read(answer, order, i, what);
    }

    int answerBy(int summary, int i, int what) {
        if (!is(summary) && summary != -3 || i < 0 || what < 0 || what > 3) {
            return -1;
        }
        if (question == null) {
            return -2;
        }
        if (summary != -3 && !covers(summaries.get(summary))) {
            return -5;
        }
        TreeMap<Integer, Integer> answer = summary == -3 ? answerByFacts() : answerBySummary(summaries.get(summary));
        return read(answer, new ArrayList<>(answer.keySet()), i, what);
    }

    int unlike(int summary) {
        if (!is(summary)) {
            return -1;
        }
        if (!covers(summaries.get(summary))) {
            return -2;
        }
        TreeMap<Integer, Integer> by = answerBySummary(summaries.get(summary));
        TreeMap<Integer, Integer> due = answerByFacts();
        TreeSet<Integer> keys = new TreeSet<>(by.keySet());
        keys.addAll(due.keySet());
        keys.removeIf(key -> by.containsKey(key) && due.containsKey(key) && by.get(key).equals(due.get(key)));
        return keys.size();
    }

    // ---- the lattice

    private static int[] levels(int node) {
        return new int[] {node / 9, node / 3 % 3, node % 3};
    }

    int node(int node) {
        if (node < 0 || node > 26) {
            return -1;
        }
        TreeSet<Integer> keys = new TreeSet<>();
        for (Fact fact : facts) {
            keys.add(keyOf(new Form(levels(node), null, null), fact));
        }
        return keys.size();
    }

    int below(int node, int other) {
        if (node < 0 || node > 26 || other < 0 || other > 26) {
            return -1;
        }
        for (int side = 0; side < 3; side++) {
            if (levels(node)[side] < levels(other)[side]) {
                return 0;
            }
        }
        return 1;
    }

    private int[] allNodes() {
        int[] sizes = new int[27];
        for (int node = 0; node < 27; node++) {
            sizes[node] = node(node);
        }
        return sizes;
    }

    private int price(int some, int[] sizes) {
        int sum = 0;
        for (int node = 0; node < 27; node++) {
            int least = facts.size();
            for (int told = 0; told < 27; told++) {
                if ((some >> told & 1) == 1 && below(node, told) == 1) {
                    least = Math.min(least, sizes[told]);
                }
            }
            sum += least;
        }
        return sum;
    }

    int price(int some) {
        return some < 0 || some > 134217727 ? -1 : price(some, allNodes());
    }

    int greedy(int k, int what) {
        if (k < 1 || k > 6 || !(what == 0 || what >= 10 && what < 10 + k)) {
            return -1;
        }
        int[] sizes = allNodes();
        int some = 0;
        List<Integer> order = new ArrayList<>();
        for (int i = 0; i < k; i++) {
            int best = -1;
            for (int node = 0; node < 27; node++) {
                if ((some >> node & 1) == 0
                        && (best < 0 || price(some | 1 << node, sizes) < price(some | 1 << best, sizes))) {
                    best = node;
                }
            }
            some |= 1 << best;
            order.add(best);
        }
        return what == 0 ? price(some, sizes) : order.get(what - 10);
    }

    int best(int k, int what) {
        if (k < 1 || k > 2 || what < 0 || what > 2) {
            return -1;
        }
        int[] sizes = allNodes();
        int first = -1;
        int second = -1;
        int least = Integer.MAX_VALUE;
        for (int i = 0; i < 27; i++) {
            for (int j = k == 1 ? i : i + 1; j < (k == 1 ? i + 1 : 27); j++) {
                int price = price(1 << i | 1 << j, sizes);
                if (price < least) {
                    least = price;
                    first = i;
                    second = j;
                }
            }
        }
        return what == 0 ? least : what == 1 ? first : k == 1 ? -2 : second;
    }

    int madeOf(int summary) {
        if (!is(summary)) {
            return -1;
        }
        Made made = summaries.get(summary);
        int bits = 0;
        for (int i = 0; i < summaries.size(); i++) {
            boolean could = i != summary && coversSides(summaries.get(i).form, made.form);
            for (char part : made.form.letters.toCharArray()) {
                could &= had(part, summaries.get(i).form.letters);
            }
            bits |= could ? 1 << i : 0;
        }
        return bits;
    }

    // ---- the rest

    boolean seed(int seed) {
        if (seed < 0 || seed > 65535) {
            return false;
        }
        x = seed;
        return true;
    }

    int keep() {
        keptFacts = new ArrayList<>(facts);
        keptSummaries = new ArrayList<>();
        for (Made made : summaries) {
            keptSummaries.add(made.copy());
        }
        keptX = x;
        shaped = false;
        return facts.size();
    }

    boolean undo() {
        if (keptFacts == null) {
            return false;
        }
        facts = new ArrayList<>(keptFacts);
        summaries = new ArrayList<>();
        if (!shaped) {
            for (Made made : keptSummaries) {
                summaries.add(made.copy());
            }
        }
        x = keptX;
        return true;
    }

    int count(int what) {
        switch (what) {
            case 0: return facts.size();
            case 1: return summaries.size();
            case 2: return tape.size();
            case 3: return x;
            case 4:
                int sum = 0;
                for (Fact fact : facts) {
                    sum += fact.measure;
                }
                return sum;
            case 5: return rules.size();
            default: return -1;
        }
    }
}
