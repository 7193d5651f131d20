import java.util.Random;
import java.util.TreeMap;

/** Random runs of calls, of a told seed, on an object and on the oracle: every answer must be the same. */
public final class RandomRunsTest {
    private static final int RUNS = 1500;
    private static final int CALLS = 512;
    private static final int STEP_MOST = 14;
    private final Random random;
    private final int run;
    private final KeptSummaries tried = new KeptSummaries();
    private final Oracle oracle = new Oracle();
    private final int bias;
    private int calls = 0;
    private int wrong = 0;
    private final TreeMap<String, Integer> seen;

    private RandomRunsTest(int run, TreeMap<String, Integer> seen) {
        this.run = run;
        this.random = new Random(7919L * run + 5);
        this.bias = random.nextInt(6);
        this.seen = seen;
    }

    public static void main(String[] args) {
        int runs = args.length > 0 ? Integer.parseInt(args[0]) : RUNS;
        int wrong = 0;
        TreeMap<String, Integer> seen = new TreeMap<>();
        for (int run = 0; run < runs && wrong == 0; run++) {
            wrong += new RandomRunsTest(run, seen).go();
        }
        if (args.length > 1) {
            seen.forEach((what, times) -> System.out.println(what + ": " + times));
        }
        if (wrong == 0) {
            wrong += unseen(seen, runs);
        }
        System.out.println(wrong == 0 ? runs + " random runs are as due" : wrong + " answers are not as due");
        System.exit(wrong == 0 ? 0 : 1);
    }

    /** The runs are worth little if some kind of answer never comes. */
    private static int unseen(TreeMap<String, Integer> seen, int runs) {
        String[] wanted = {
            "fact -1", "fact -3", "fact -6", "fact +", "draws -1", "draws +", "feed -1", "feed +", "law -1", "law +",
            "law fault 1", "law fault 2", "law fault 4", "law fault 5", "shape -1", "shape +", "shape fault 1", "shape fault 6",
            "summary -1", "summary -3", "summary +", "summary fault 1", "summary fault 3", "summary fault 6",
            "question -1", "question +", "question fault 1", "question fault 3", "question fault 6", "renew -1",
            "renew +", "drop +", "group -1", "group -2", "group -4", "group +", "questionIs -2", "covers -2",
            "covers +", "coverIs -2", "coverIs +", "way -3", "way +", "answer -4", "answer +", "ranked -4", "ranked +",
            "answerBy -5", "answerBy -4", "answerBy +", "unlike -2", "unlike +", "price -1", "price +", "greedy -1",
            "greedy +", "best -2", "best +", "madeOf +", "check -1", "check -2", "check +", "undo +", "keep +"};
        int missing = 0;
        for (String what : wanted) {
            if (runs >= RUNS && !seen.containsKey(what)) {
                missing++;
                System.out.println("never seen: " + what);
            }
        }
        return missing;
    }

    private int go() {
        // What an object answers behind its 512th call is free.
        while (calls + STEP_MOST <= CALLS && wrong == 0) {
            step();
        }
        return wrong;
    }

    private void due(String name, String call, int got, int want) {
        calls++;
        String kind = want >= 0 ? "+" : want <= -1000 ? "fault " + -want / 1000 : "" + want;
        seen.merge(name + " " + kind, 1, Integer::sum);
        if (got != want) {
            wrong++;
            System.out.println("run " + run + " call " + calls + ": " + name + call + " answered " + got + ", due is " + want);
        }
    }

    private static int bit(boolean yes) {
        return yes ? 1 : 0;
    }

    private int about(int least, int most) {
        return random.nextInt(12) == 0 ? edge(least, most) : least + random.nextInt(most - least + 1);
    }

    private int edge(int least, int most) {
        int[] edges = {least - 1, most + 1, Integer.MIN_VALUE, Integer.MAX_VALUE, -3, -1, least, most};
        return edges[random.nextInt(edges.length)];
    }

    private int tell(String text) {
        int[] w = Texts.words(text);
        for (int i = 0; i < w.length; i += 5) {
            due("feed", "", tried.feed(w[i], w[i + 1], w[i + 2], w[i + 3], w[i + 4]),
                    oracle.feed(w[i], w[i + 1], w[i + 2], w[i + 3], w[i + 4]));
        }
        return random.nextInt(40) == 0 ? edge(1, 260) : text.length();
    }

    private void step() {
        int kind = random.nextInt(100);
        if (kind < 12) {
            tellFacts();
        } else if (kind < 30) {
            tellTexts();
        } else if (kind < 45) {
            changeSummaries();
        } else if (kind < 85) {
            askSummaries();
        } else {
            askLattice();
        }
    }

    private void tellFacts() {
        if (random.nextInt(bias == 0 ? 2 : 4) == 0) {
            int n = random.nextInt(10) == 0 ? edge(1, 60) : bias == 0 ? about(1, 60) : about(1, 8);
            due("draws", "(" + n + ")", tried.draws(n), oracle.draws(n));
            return;
        }
        int narrow = bias % 2 == 0 ? 7 : 2;
        int a = about(0, narrow);
        int b = about(0, 7);
        int c = about(0, narrow);
        int m = bias == 3 ? about(0, 5) : about(0, 99);
        due("fact", "(" + a + ", " + b + ", " + c + ", " + m + ")", tried.fact(a, b, c, m), oracle.fact(a, b, c, m));
    }

    private void tellTexts() {
        int kind = random.nextInt(20);
        if (kind < 3) {
            String text = Texts.law(random);
            int n = tell(text);
            due("law", "(" + n + ") " + text, tried.law(n), oracle.law(n));
        } else if (kind < 4) {
            String text = Texts.shape(random);
            int n = tell(text);
            due("shape", "(" + n + ") " + text, tried.shape(n), oracle.shape(n));
        } else if (kind < 10) {
            String text = Texts.summary(random);
            int n = tell(text);
            due("summary", "(" + n + ") " + text, tried.summary(n), oracle.summary(n));
        } else if (kind < 17) {
            String text = Texts.question(random);
            int n = tell(text);
            due("question", "(" + n + ") " + text, tried.question(n), oracle.question(n));
        } else if (kind < 18) {
            check();
        } else if (random.nextInt(3) == 0) {
            for (int i = 0; i < 14; i++) {
                int word = random.nextInt();
                due("feed", "", tried.feed(word, 1, 2, 3, 4), oracle.feed(word, 1, 2, 3, 4));
            }
        }
    }

    private void check() {
        int facts = oracle.count(0);
        StringBuilder text = new StringBuilder();
        int length = random.nextInt(41);
        for (int i = 0; i < length; i++) {
            text.append((char) (i < facts ? oracle.factIs(i, 3) : 255));
        }
        if (length > 0 && random.nextBoolean()) {
            text.setCharAt(random.nextInt(length), (char) random.nextInt(256));
        }
        int n = tell(text.toString());
        due("check", "(" + n + ")", tried.check(n), oracle.check(n));
    }

    private void changeSummaries() {
        int s = about(0, 7);
        switch (random.nextInt(10)) {
            case 0, 1, 6, 7:
                due("renew", "(" + s + ")", tried.renew(s), oracle.renew(s));
                break;
            case 2:
                if (bias > 1 || random.nextInt(4) == 0) {
                    due("drop", "(" + s + ")", bit(tried.drop(s)), bit(oracle.drop(s)));
                }
                break;
            case 3, 8, 9:
                due("keep", "()", tried.keep(), oracle.keep());
                break;
            case 4:
                if (bias != 0 || random.nextInt(4) == 0) {
                    due("undo", "()", bit(tried.undo()), bit(oracle.undo()));
                }
                break;
            default:
                int x = random.nextInt(4) == 0 ? edge(0, 65535) : random.nextInt(65536);
                due("seed", "(" + x + ")", bit(tried.seed(x)), bit(oracle.seed(x)));
                break;
        }
    }

    private int answerIndex() {
        return random.nextInt(3) == 0 ? about(0, 60) : about(0, 6);
    }

    private void askSummaries() {
        int s = random.nextInt(3) == 0 ? about(0, 7) : random.nextInt(Math.max(1, oracle.count(1)));
        int i = answerIndex();
        int what = about(0, 3);
        String args = "(" + s + ", " + i + ", " + what + ")";
        switch (random.nextInt(16)) {
            case 0 -> due("coarse", "", tried.coarse(what, i), oracle.coarse(what, i));
            case 1 -> due("factIs", args, tried.factIs(i, what), oracle.factIs(i, what));
            case 2 -> {
                int w = about(0, 13);
                due("summaryIs", "(" + s + ", " + w + ")", tried.summaryIs(s, w), oracle.summaryIs(s, w));
            }
            case 3, 4 -> {
                int w = about(0, 6);
                due("group", "(" + s + ", " + i + ", " + w + ")", tried.group(s, i, w), oracle.group(s, i, w));
            }
            case 5 -> {
                int w = about(0, 13);
                due("questionIs", "(" + w + ")", tried.questionIs(w), oracle.questionIs(w));
            }
            case 6 -> due("covers", args, tried.covers(s), oracle.covers(s));
            case 7, 8 -> due("coverIs", args, tried.coverIs(s, what), oracle.coverIs(s, what));
            case 9 -> due("way", "(" + what + ")", tried.way(what), oracle.way(what));
            case 10 -> due("answer", args, tried.answer(i, what), oracle.answer(i, what));
            case 11 -> due("ranked", args, tried.ranked(i, what), oracle.ranked(i, what));
            case 12 -> {
                int by = random.nextInt(4) == 0 ? -3 : s;
                due("answerBy", "(" + by + ", ..)", tried.answerBy(by, i, what), oracle.answerBy(by, i, what));
            }
            case 13 -> due("unlike", args, tried.unlike(s), oracle.unlike(s));
            case 14 -> due("madeOf", args, tried.madeOf(s), oracle.madeOf(s));
            default -> {
                int w = about(0, 5);
                due("count", "(" + w + ")", tried.count(w), oracle.count(w));
            }
        }
    }

    private void askLattice() {
        int node = about(0, 26);
        switch (random.nextInt(8)) {
            case 0, 1 -> due("node", "(" + node + ")", tried.node(node), oracle.node(node));
            case 2 -> {
                int other = about(0, 26);
                due("below", "(" + node + ", " + other + ")", tried.below(node, other), oracle.below(node, other));
            }
            case 3, 4 -> {
                int some = random.nextInt(8) == 0 ? edge(0, 134217727) : random.nextInt(134217728) & random.nextInt(134217728)
                        & random.nextInt(134217728);
                due("price", "(" + some + ")", tried.price(some), oracle.price(some));
            }
            case 5, 6 -> {
                int k = about(1, 6);
                int what = random.nextInt(3) == 0 ? 0 : about(9, 16);
                due("greedy", "(" + k + ", " + what + ")", tried.greedy(k, what), oracle.greedy(k, what));
            }
            default -> {
                int k = about(1, 2);
                int what = about(0, 2);
                due("best", "(" + k + ", " + what + ")", tried.best(k, what), oracle.best(k, what));
            }
        }
    }
}
