import java.util.Arrays;

/** Answers questions of sums over facts, from summaries that are kept or from the facts; ../shared/DOC.md tells it. */
public final class KeptSummaries {
    public static final int NONE = -1;

    private static final int NOT_HAD = -2;
    private static final int FULL = -3;
    private static final int BY_FACTS = -3;
    private static final int NOT_SO_MANY = -4;
    private static final int NOT_COVERED = -5;
    private static final int NOT_TAKEN = -6;

    private static final int FAULT_STEP = -1000;
    private static final int FAULT_WRONG = 1;
    private static final int FAULT_DIGITS = 2;
    private static final int FAULT_BOUNDS = 3;
    private static final int FAULT_RULES = 4;
    private static final int FAULT_DEPTH = 5;
    private static final int FAULT_TWICE = 6;

    private static final int SIDES = 3;
    private static final int VALUES = 8;
    private static final int ALL_VALUES = 255;
    private static final int COARSE_ONES = 4;
    private static final int LEVELS = 3;
    private static final int MEASURES = 100;
    private static final int TRIPLES = 512;
    private static final int ROWS = 64;
    private static final int NODES = 27;
    private static final int ALL_NODES = 134217727;

    private static final int FACTS_MOST = 240;
    private static final int DRAWS_MOST = 60;
    private static final int SUMMARIES_MOST = 8;
    private static final int PICKS_MOST = 6;
    private static final int RULES_MOST = 16;
    private static final int OPEN_MOST = 6;
    private static final int DIGITS_MOST = 5;
    private static final int STACK_MOST = 32;
    private static final int LETTERS = 7;

    private static final int TAPE_MOST = 260;
    private static final int FEED_BYTES = 20;
    private static final int LAW_MOST = 240;
    private static final int SHAPE_MOST = 60;
    private static final int FORM_MOST = 80;
    private static final int CHECK_MOST = 240;
    private static final int NOT_THERE = 255;
    private static final int SEED_MOST = 65535;

    private static final int WHAT_AVERAGE = 4;
    private static final int WHAT_UNLIKE = 5;
    private static final int WHAT_MIDDLE = 6;

    private final Tape tape = new Tape();
    private final LawReader lawReader = new LawReader(tape);
    private final FormReader formReader = new FormReader(tape);
    private Law law = new Law();
    private final Shape shape = new Shape();
    private final Facts facts = new Facts();
    private final Shelf shelf = new Shelf();
    private final Cut question = new Cut();
    private boolean asked = false;
    private final Table groups = new Table();
    private final Table byFacts = new Table();
    private final Table bySummary = new Table();
    private final Lattice lattice = new Lattice();
    private int x = 1;
    private final Shelf keptShelf = new Shelf();
    private int keptFacts = NONE;
    private int keptX = 1;
    private boolean shapedSinceKept = false;

    public KeptSummaries() {
    }

    // ---- facts

    public int fact(int a, int b, int c, int measure) {
        if (!isValue(a) || !isValue(b) || !isValue(c) || measure < 0 || measure >= MEASURES) {
            return NONE;
        }
        if (facts.size >= FACTS_MOST) {
            return FULL;
        }
        return comes(tripleOf(a, b, c), measure) ? facts.size - 1 : NOT_TAKEN;
    }

    public int draws(int n) {
        if (n < 1 || n > DRAWS_MOST) {
            return NONE;
        }
        int taken = 0;
        for (int i = 0; i < n && facts.size < FACTS_MOST; i++) {
            int a = nextX() % VALUES;
            int b = nextX() % VALUES;
            int c = nextX() % VALUES;
            int measure = nextX() % MEASURES;
            if (comes(tripleOf(a, b, c), measure)) {
                taken++;
            }
        }
        return taken;
    }

    public int factIs(int f, int what) {
        if (f < 0 || f >= facts.size || what < 0 || what > SIDES) {
            return NONE;
        }
        return what < SIDES ? numberIn(facts.tripleAt(f), what) : facts.measureAt(f);
    }

    public boolean seed(int x) {
        if (x < 0 || x > SEED_MOST) {
            return false;
        }
        this.x = x;
        return true;
    }

    // ---- texts

    public int feed(int a, int b, int c, int d, int e) {
        if (tape.size + FEED_BYTES > TAPE_MOST) {
            return NONE;
        }
        tape.append(a);
        tape.append(b);
        tape.append(c);
        tape.append(d);
        tape.append(e);
        return tape.size;
    }

    public int law(int n) {
        if (!tape.has(n, 1, LAW_MOST)) {
            return NONE;
        }
        tape.begin(n);
        lawReader.readRules();
        tape.clear();
        if (tape.fault != 0) {
            return tape.faultAnswer();
        }
        law = lawReader.exchange(law);
        return law.rules;
    }

    public int shape(int n) {
        if (!tape.has(n, 1, SHAPE_MOST)) {
            return NONE;
        }
        tape.begin(n);
        int lines = formReader.readShape(shape);
        tape.clear();
        if (tape.fault != 0) {
            return tape.faultAnswer();
        }
        shape.copyFrom(formReader.shape);
        shelf.size = 0;
        shapedSinceKept = true;
        return lines;
    }

    public int summary(int n) {
        if (!tape.has(n, 1, FORM_MOST)) {
            return NONE;
        }
        tape.begin(n);
        formReader.readSummary(shape);
        tape.clear();
        if (tape.fault != 0) {
            return tape.faultAnswer();
        }
        Summary made = shelf.addOne();
        if (made == null) {
            return FULL;
        }
        made.cut.copyFrom(formReader.cut);
        makeAnew(made);
        return shelf.size - 1;
    }

    public int question(int n) {
        if (!tape.has(n, 1, FORM_MOST)) {
            return NONE;
        }
        tape.begin(n);
        formReader.readQuestion(shape);
        tape.clear();
        if (tape.fault != 0) {
            return tape.faultAnswer();
        }
        question.copyFrom(formReader.cut);
        asked = true;
        return tallyAnswer(null).size;
    }

    public int check(int n) {
        if (!tape.has(n, 0, CHECK_MOST)) {
            return NOT_HAD;
        }
        int wrong = NONE;
        for (int f = 0; f < n && wrong == NONE; f++) {
            int measure = f < facts.size ? facts.measureAt(f) : NOT_THERE;
            if (tape.byteAt(f) != measure) {
                wrong = f;
            }
        }
        tape.clear();
        return wrong;
    }

    // ---- summaries

    public int renew(int summary) {
        Summary made = shelf.at(summary);
        if (made == null) {
            return NONE;
        }
        int fresh = facts.size - made.upto;
        makeAnew(made);
        return fresh;
    }

    public boolean drop(int summary) {
        if (shelf.at(summary) == null) {
            return false;
        }
        shelf.remove(summary);
        return true;
    }

    public int coarse(int side, int value) {
        return isSide(side) && isValue(value) ? shape.numberOf(side, 1, value) : NONE;
    }

    public int summaryIs(int summary, int what) {
        Summary made = shelf.at(summary);
        if (made == null) {
            return NONE;
        }
        switch (what) {
            case 3:
                return made.cut.keeps;
            case 4:
                return made.upto;
            case 5:
                return made.groups;
            case 6:
                return costOf(made);
            default:
                return made.cut.levelOrLets(what);
        }
    }

    public int group(int summary, int i, int what) {
        Summary made = shelf.at(summary);
        if (made == null || i < 0 || what < 0 || what > 6) {
            return NONE;
        }
        tallyGroups(made);
        int key = groups.keyAt(i);
        if (key < 0) {
            return NOT_SO_MANY;
        }
        if (what < SIDES) {
            return numberIn(key, what);
        }
        int part = what - SIDES;
        return (made.cut.keeps >> part & 1) == 0 ? NOT_HAD : groups.valueAt(key, part);
    }

    public int madeOf(int summary) {
        Summary made = shelf.at(summary);
        if (made == null) {
            return NONE;
        }
        int bits = 0;
        for (int i = 0; i < shelf.size; i++) {
            Summary other = shelf.at(i);
            if (i != summary && other != null && other.cut.keepsAll(made.cut.keeps)
                    && other.cut.coversSides(made.cut, shape)) {
                bits |= 1 << i;
            }
        }
        return bits;
    }

    // ---- the question

    public int questionIs(int what) {
        if (what != 3 && !isLevelOrLets(what)) {
            return NONE;
        }
        if (!asked) {
            return NOT_HAD;
        }
        return what == 3 ? question.what : question.levelOrLets(what);
    }

    public int covers(int summary) {
        Summary made = shelf.at(summary);
        if (made == null) {
            return NONE;
        }
        if (!asked) {
            return NOT_HAD;
        }
        return isCovering(made) ? 1 : 0;
    }

    public int coverIs(int summary, int what) {
        Summary made = shelf.at(summary);
        if (made == null || what < 0 || what > 3) {
            return NONE;
        }
        if (!isCovering(made)) {
            return NOT_HAD;
        }
        switch (what) {
            case 0:
                return made.cut.leftOutFor(question);
            case 1:
                return made.cut.rolledUpFor(question);
            case 2:
                return facts.letBy(question, made.upto);
            default:
                tallyGroups(made);
                return groupsInside(made.cut);
        }
    }

    public int way(int what) {
        if (what != 0 && what != 1) {
            return NONE;
        }
        if (!asked) {
            return NOT_HAD;
        }
        int cheapest = cheapestWay();
        if (what == 0) {
            return cheapest;
        }
        Summary made = shelf.at(cheapest);
        return made == null ? facts.size : costOf(made);
    }

    public int answer(int i, int what) {
        if (!isAnswerPlace(i, what)) {
            return NONE;
        }
        if (!asked) {
            return NOT_HAD;
        }
        Table table = tallyAnswer(shelf.at(cheapestWay()));
        return answerAt(table, table.keyAt(i), what);
    }

    public int ranked(int i, int what) {
        if (!isAnswerPlace(i, what)) {
            return NONE;
        }
        if (!asked) {
            return NOT_HAD;
        }
        Table table = tallyAnswer(shelf.at(cheapestWay()));
        return answerAt(table, table.rankedKeyAt(i, question.what), what);
    }

    public int answerBy(int summary, int i, int what) {
        Summary made = shelf.at(summary);
        if (made == null && summary != BY_FACTS || !isAnswerPlace(i, what)) {
            return NONE;
        }
        if (!asked) {
            return NOT_HAD;
        }
        if (made != null && !isCovering(made)) {
            return NOT_COVERED;
        }
        Table table = tallyAnswer(made);
        return answerAt(table, table.keyAt(i), what);
    }

    public int unlike(int summary) {
        Summary made = shelf.at(summary);
        if (made == null) {
            return NONE;
        }
        if (!isCovering(made)) {
            return NOT_HAD;
        }
        return tallyAnswer(made).unlikeGroups(tallyAnswer(null), question.what);
    }

    // ---- the lattice

    public int node(int node) {
        if (!isNode(node)) {
            return NONE;
        }
        lattice.recount(facts, shape);
        return lattice.groupsOf(node);
    }

    public int below(int node, int other) {
        if (!isNode(node) || !isNode(other)) {
            return NONE;
        }
        return lattice.isBelow(node, other) ? 1 : 0;
    }

    public int price(int some) {
        if (some < 0 || some > ALL_NODES) {
            return NONE;
        }
        lattice.recount(facts, shape);
        return lattice.priceOf(some);
    }

    public int greedy(int k, int what) {
        if (k < 1 || k > PICKS_MOST || what != 0 && (what < 10 || what >= 10 + k)) {
            return NONE;
        }
        lattice.recount(facts, shape);
        lattice.pickGreedily(k);
        return what == 0 ? lattice.pickedPrice : lattice.pickAt(what - 10);
    }

    public int best(int k, int what) {
        if (k < 1 || k > 2 || what < 0 || what > 2) {
            return NONE;
        }
        if (what > k) {
            return NOT_HAD;
        }
        lattice.recount(facts, shape);
        if (k == 1) {
            lattice.pickGreedily(1);
        } else {
            lattice.pickBestTwo();
        }
        return what == 0 ? lattice.pickedPrice : lattice.pickAt(what - 1);
    }

    // ---- kept and undone

    public int keep() {
        keptFacts = facts.size;
        keptX = x;
        keptShelf.copyFrom(shelf);
        shapedSinceKept = false;
        return keptFacts;
    }

    public boolean undo() {
        if (keptFacts < 0) {
            return false;
        }
        // Facts only ever come behind the kept ones, so these still stand in their places.
        facts.size = keptFacts;
        x = keptX;
        if (shapedSinceKept) {
            shelf.size = 0;
        } else {
            shelf.copyFrom(keptShelf);
        }
        return true;
    }

    public int count(int what) {
        switch (what) {
            case 0:
                return facts.size;
            case 1:
                return shelf.size;
            case 2:
                return tape.size;
            case 3:
                return x;
            case 4:
                return facts.measuresAdded();
            case 5:
                return law.rules;
            default:
                return NONE;
        }
    }

    // ---- what the calls share

    private int nextX() {
        x = (25173 * x + 13849) % 65536;
        return x;
    }

    /** All of the law is asked before the fact is there, as it is of the facts and summaries without it. */
    private boolean comes(int triple, int measure) {
        int draw = nextX() % 10;
        law.tell(triple, measure, facts.size, shelf.size, draw);
        if (law.refuses()) {
            return false;
        }
        int taken = law.measureFor(measure);
        Summary renewed = shelf.at(law.summaryToRenew());
        facts.add(triple, taken);
        if (renewed != null) {
            makeAnew(renewed);
        }
        return true;
    }

    private void makeAnew(Summary made) {
        made.upto = facts.size;
        groups.clear();
        facts.tally(groups, made.cut, shape, 0, made.upto);
        made.groups = groups.size;
    }

    private void tallyGroups(Summary made) {
        groups.clear();
        facts.tally(groups, made.cut, shape, 0, made.upto);
    }

    private int costOf(Summary made) {
        return made.groups + facts.size - made.upto;
    }

    private boolean isCovering(Summary made) {
        return asked && made.cut.keepsAll(partsFor(question.what)) && made.cut.coversSides(question, shape);
    }

    private int groupsInside(Cut own) {
        int inside = 0;
        for (int key = 0; key < TRIPLES; key++) {
            if (groups.hasKey(key) && own.liesIn(key, question, shape)) {
                inside++;
            }
        }
        return inside;
    }

    private int cheapestWay() {
        int cheapest = BY_FACTS;
        int cost = facts.size;
        for (int i = 0; i < shelf.size; i++) {
            Summary made = shelf.at(i);
            if (made == null || !isCovering(made)) {
                continue;
            }
            int own = costOf(made);
            // A summary as dear as the facts still goes before them, but not before another summary.
            if (own < cost || own == cost && cheapest == BY_FACTS) {
                cheapest = i;
                cost = own;
            }
        }
        return cheapest;
    }

    /** The answer by a summary that covers, or by the facts where there is none. */
    private Table tallyAnswer(Summary by) {
        if (by == null) {
            byFacts.clear();
            facts.tally(byFacts, question, shape, 0, facts.size);
            if (question.what == WHAT_UNLIKE || question.what == WHAT_MIDDLE) {
                facts.tallySingled(byFacts, question, shape);
            }
            return byFacts;
        }
        tallyGroups(by);
        bySummary.clear();
        for (int key = 0; key < TRIPLES; key++) {
            if (groups.hasKey(key) && by.cut.liesIn(key, question, shape)) {
                bySummary.addGroup(by.cut.rolledKey(key, question, shape), groups, key);
            }
        }
        facts.tally(bySummary, question, shape, by.upto, facts.size);
        return bySummary;
    }

    private int answerAt(Table table, int key, int what) {
        if (key < 0) {
            return NOT_SO_MANY;
        }
        return what < SIDES ? numberIn(key, what) : table.valueAt(key, question.what);
    }

    private static boolean isAnswerPlace(int i, int what) {
        return i >= 0 && what >= 0 && what <= SIDES;
    }

    private static boolean isSide(int side) {
        return side >= 0 && side < SIDES;
    }

    private static boolean isValue(int value) {
        return value >= 0 && value < VALUES;
    }

    private static boolean isNode(int node) {
        return node >= 0 && node < NODES;
    }

    private static boolean isDigit(int sign) {
        return sign >= '0' && sign <= '9';
    }

    private static boolean isLevelOrLets(int what) {
        return isSide(what) || isSide(what - 10);
    }

    /** Three numbers of 0 to 7 in one, so that rising triples are rising numbers. */
    private static int tripleOf(int a, int b, int c) {
        return (a & 7) << 6 | (b & 7) << 3 | c & 7;
    }

    private static int numberIn(int triple, int side) {
        return triple >> 3 * (SIDES - 1 - side) & 7;
    }

    /** The parts that a question's what is put together of; of d and m a part that no summary keeps. */
    private static int partsFor(int what) {
        if (what == WHAT_AVERAGE) {
            return 3;
        }
        return 1 << Math.min(what, WHAT_AVERAGE);
    }

    private static int levelIn(int node, int side) {
        if (side == 0) {
            return node / 9;
        }
        return side == 1 ? node / 3 % 3 : node % 3;
    }

    /** The bytes that were fed, and the text of them that is read: behind a fault it is as if it ended. */
    private static final class Tape {
        private static final int END = -1;
        private final int[] bytes = new int[TAPE_MOST];
        private int size = 0;
        private int length = 0;
        private int place = 0;
        private int fault = 0;
        private int faultPlace = 0;

        void append(int word) {
            for (int shift = 24; shift >= 0; shift -= 8) {
                if (size < TAPE_MOST) {
                    bytes[size] = word >>> shift & 255;
                    size++;
                }
            }
        }

        boolean has(int n, int least, int most) {
            return n >= least && n <= most && n <= size;
        }

        int byteAt(int i) {
            return i >= 0 && i < size && i < TAPE_MOST ? bytes[i] : NONE;
        }

        void clear() {
            size = 0;
        }

        void begin(int n) {
            length = n;
            place = 0;
            fault = 0;
            faultPlace = 0;
        }

        int peek() {
            return fault == 0 && place < length && place < TAPE_MOST ? bytes[place] : END;
        }

        void step() {
            place++;
        }

        void take(int sign) {
            if (peek() == sign) {
                place++;
            } else {
                fail(FAULT_WRONG);
            }
        }

        void takeEnd() {
            if (place < length) {
                fail(FAULT_WRONG);
            }
        }

        void fail(int number) {
            if (fault == 0) {
                fault = number;
                faultPlace = place;
            }
        }

        void failAt(int number, int where) {
            if (fault == 0) {
                fault = number;
                faultPlace = where;
            }
        }

        int faultAnswer() {
            return FAULT_STEP * fault - faultPlace;
        }
    }

    /** The rules as steps for a stack, and the fact that they are asked of. */
    private static final class Law {
        private static final int NUMBER = 0;
        private static final int LETTER = 1;
        private final int[] steps = new int[LAW_MOST];
        private final int[] operands = new int[LAW_MOST];
        private int size = 0;
        private final int[] heads = new int[RULES_MOST];
        private final int[] starts = new int[RULES_MOST];
        private final int[] conditions = new int[RULES_MOST];
        private final int[] ends = new int[RULES_MOST];
        private int rules = 0;
        private final int[] stack = new int[STACK_MOST];
        private int top = 0;
        private boolean refused = false;
        private final int[] letters = new int[LETTERS];

        void clear() {
            size = 0;
            rules = 0;
        }

        /** Every step is of a byte of its own in the text, so there is room for all of them. */
        int addStep(int step, int operand) {
            if (size < LAW_MOST) {
                steps[size] = step;
                operands[size] = operand;
                size++;
            }
            return size - 1;
        }

        void leadHere(int step) {
            if (step >= 0 && step < size) {
                operands[step] = size;
            }
        }

        void addRule(int head, int start, int condition) {
            if (rules < RULES_MOST) {
                heads[rules] = head;
                starts[rules] = start;
                conditions[rules] = condition;
                ends[rules] = size;
                rules++;
            }
        }

        static int letterOf(int sign) {
            switch (sign) {
                case 'a':
                    return 0;
                case 'b':
                    return 1;
                case 'c':
                    return 2;
                case 'm':
                    return 3;
                case 'n':
                    return 4;
                case 'k':
                    return 5;
                case 'w':
                    return 6;
                default:
                    return NONE;
            }
        }

        void tell(int triple, int measure, int facts, int summaries, int draw) {
            letters[0] = numberIn(triple, 0);
            letters[1] = numberIn(triple, 1);
            letters[2] = numberIn(triple, 2);
            letters[3] = measure;
            letters[4] = facts % 100;
            letters[5] = summaries;
            letters[6] = draw;
        }

        boolean refuses() {
            return firstHolding('x') != NONE;
        }

        int measureFor(int told) {
            int rule = firstHolding('m');
            return rule == NONE ? told : Math.max(0, Math.min(MEASURES - 1, result(rule)));
        }

        int summaryToRenew() {
            int rule = firstHolding('u');
            return rule == NONE ? NONE : result(rule);
        }

        private int firstHolding(int head) {
            for (int rule = 0; rule < rules && rule < RULES_MOST; rule++) {
                if (heads[rule] == head && run(conditions[rule], ends[rule]) != 0) {
                    return rule;
                }
            }
            return NONE;
        }

        private int result(int rule) {
            return rule >= 0 && rule < RULES_MOST ? run(starts[rule], conditions[rule]) : 0;
        }

        /** 0 if it is refused: such a condition does not hold, and such an E is 0. */
        private int run(int from, int to) {
            top = 0;
            refused = false;
            for (int at = Math.max(0, from); at < to && at < LAW_MOST && !refused; at++) {
                int step = steps[at];
                if (step == NUMBER) {
                    push(operands[at]);
                } else if (step == LETTER) {
                    push(letterAt(operands[at]));
                } else if (step == '!') {
                    push(pop() == 0 ? 1 : 0);
                } else if (step == '&' || step == '|') {
                    at = Math.max(at, afterTest(step, operands[at]) - 1);
                } else {
                    int right = pop();
                    push(reckon(step, pop(), right));
                }
            }
            return refused ? 0 : pop();
        }

        /** Past what no longer matters, with the outcome of the test left there; NONE if the next one matters. */
        private int afterTest(int step, int target) {
            int outcome = pop();
            if ((outcome != 0) != (step == '|')) {
                return NONE;
            }
            push(outcome);
            return target;
        }

        private int reckon(int step, int left, int right) {
            switch (step) {
                case '+':
                    return left + right;
                case '-':
                    return left - right;
                case '*':
                    return left * right;
                case '/':
                    refused = refused || right == 0;
                    return right == 0 ? 0 : left / right;
                case '%':
                    refused = refused || right == 0;
                    return right == 0 ? 0 : left % right;
                case '<':
                    return left < right ? 1 : 0;
                case '>':
                    return left > right ? 1 : 0;
                default:
                    return left == right ? 1 : 0;
            }
        }

        private int letterAt(int letter) {
            return letter >= 0 && letter < LETTERS ? letters[letter] : 0;
        }

        private void push(int value) {
            if (top < STACK_MOST) {
                stack[top] = value;
                top++;
            }
        }

        private int pop() {
            if (top <= 0) {
                return 0;
            }
            top--;
            return stack[top];
        }
    }

    /** Writes the law that is on the tape into a spare one, so that the law before can stay. */
    private static final class LawReader {
        private final Tape tape;
        private Law spare = new Law();

        LawReader(Tape tape) {
            this.tape = tape;
        }

        Law exchange(Law before) {
            Law written = spare;
            spare = before;
            return written;
        }

        void readRules() {
            spare.clear();
            for (int i = 0; i <= RULES_MOST; i++) {
                int head = readHead();
                int start = spare.size;
                if (head != 'x') {
                    readSum(0);
                }
                int condition = spare.size;
                tape.take('(');
                readCondition(1);
                tape.take(')');
                spare.addRule(head, start, condition);
                if (tape.peek() != ';') {
                    break;
                }
                tape.step();
            }
            tape.takeEnd();
        }

        private int readHead() {
            int head = tape.peek();
            if (head != 'm' && head != 'u' && head != 'x') {
                tape.fail(FAULT_WRONG);
            } else if (spare.rules >= RULES_MOST) {
                tape.fail(FAULT_RULES);
            }
            tape.step();
            return head;
        }

        /** A C; open tells how many of ( [ ! stand open around it. */
        private void readCondition(int open) {
            int partBefore = NONE;
            for (int part = 0; part < LAW_MOST; part++) {
                int testBefore = NONE;
                for (int test = 0; test < LAW_MOST; test++) {
                    readTest(open);
                    spare.leadHere(testBefore);
                    if (tape.peek() != '&') {
                        break;
                    }
                    tape.step();
                    testBefore = spare.addStep('&', 0);
                }
                spare.leadHere(partBefore);
                if (tape.peek() != '|') {
                    break;
                }
                tape.step();
                partBefore = spare.addStep('|', 0);
            }
        }

        private void readTest(int open) {
            int sign = tape.peek();
            if ((sign == '!' || sign == '(') && open >= OPEN_MOST) {
                tape.fail(FAULT_DEPTH);
                return;
            }
            if (sign == '!') {
                tape.step();
                readTest(open + 1);
                spare.addStep('!', 0);
                return;
            }
            if (sign == '(') {
                tape.step();
                readCondition(open + 1);
                tape.take(')');
                return;
            }
            readSum(open);
            int comparison = tape.peek();
            if (comparison != '<' && comparison != '>' && comparison != '=') {
                tape.fail(FAULT_WRONG);
                return;
            }
            tape.step();
            readSum(open);
            spare.addStep(comparison, 0);
        }

        /** An E: the sign ahead of a term waits till the whole term is there, that ahead of a factor for it alone. */
        private void readSum(int open) {
            int termSign = NONE;
            int factorSign = NONE;
            for (int factor = 0; factor < LAW_MOST; factor++) {
                readFactor(open);
                addWaiting(factorSign);
                int sign = tape.peek();
                boolean sameTerm = sign == '*' || sign == '/' || sign == '%';
                factorSign = sameTerm ? sign : NONE;
                if (!sameTerm) {
                    addWaiting(termSign);
                    termSign = sign;
                    if (sign != '+' && sign != '-') {
                        break;
                    }
                }
                tape.step();
            }
        }

        private void addWaiting(int sign) {
            if (sign != NONE) {
                spare.addStep(sign, 0);
            }
        }

        private void readFactor(int open) {
            int sign = tape.peek();
            int letter = Law.letterOf(sign);
            if (sign == '[' && open >= OPEN_MOST) {
                tape.fail(FAULT_DEPTH);
            } else if (sign == '[') {
                tape.step();
                readSum(open + 1);
                tape.take(']');
            } else if (letter != NONE) {
                tape.step();
                spare.addStep(Law.LETTER, letter);
            } else if (isDigit(sign)) {
                spare.addStep(Law.NUMBER, readNumber());
            } else {
                tape.fail(FAULT_WRONG);
            }
        }

        private int readNumber() {
            int value = 0;
            for (int digits = 0; digits <= DIGITS_MOST; digits++) {
                int sign = tape.peek();
                if (!isDigit(sign)) {
                    break;
                }
                if (digits == DIGITS_MOST) {
                    tape.fail(FAULT_DIGITS);
                }
                value = value * 10 + sign - '0';
                tape.step();
            }
            return value;
        }
    }

    /** Which coarse one each value of each side is of. */
    private static final class Shape {
        private final int[] coarseOnes = new int[SIDES * VALUES];

        Shape() {
            for (int i = 0; i < SIDES * VALUES; i++) {
                coarseOnes[i] = i % VALUES / 2;
            }
        }

        void copyFrom(Shape other) {
            System.arraycopy(other.coarseOnes, 0, coarseOnes, 0, SIDES * VALUES);
        }

        void tell(int side, int value, int coarseOne) {
            if (isSide(side) && isValue(value)) {
                coarseOnes[side * VALUES + value] = coarseOne & 3;
            }
        }

        int numberOf(int side, int level, int value) {
            if (level == 0) {
                return value;
            }
            return level == 1 && isSide(side) && isValue(value) ? coarseOnes[side * VALUES + value] : 0;
        }

        int keyOf(int triple, Cut cut) {
            return tripleOf(
                    numberOf(0, cut.levelOf(0), numberIn(triple, 0)),
                    numberOf(1, cut.levelOf(1), numberIn(triple, 1)),
                    numberOf(2, cut.levelOf(2), numberIn(triple, 2)));
        }

        /** The values, as bits, whose number at the level is within. */
        int valuesWithin(int side, int level, int from, int to) {
            int values = 0;
            for (int value = 0; value < VALUES; value++) {
                int number = numberOf(side, level, value);
                if (number >= from && number <= to) {
                    values |= 1 << value;
                }
            }
            return values;
        }

        /** The numbers at the level, as bits, of values told as bits. */
        int numbersOf(int side, int level, int values) {
            int numbers = 0;
            for (int value = 0; value < VALUES; value++) {
                if ((values >> value & 1) != 0) {
                    numbers |= 1 << numberOf(side, level, value);
                }
            }
            return numbers;
        }
    }

    /** Of each side a level and the values that are let; and the parts a summary keeps, or what a question asks. */
    private static final class Cut {
        private final int[] levels = new int[SIDES];
        private final int[] lets = new int[SIDES];
        private int keeps = 0;
        private int what = 0;

        void clear() {
            Arrays.fill(levels, 0);
            Arrays.fill(lets, ALL_VALUES);
            keeps = 0;
            what = 0;
        }

        void copyFrom(Cut other) {
            System.arraycopy(other.levels, 0, levels, 0, SIDES);
            System.arraycopy(other.lets, 0, lets, 0, SIDES);
            keeps = other.keeps;
            what = other.what;
        }

        int levelOf(int side) {
            return isSide(side) ? levels[side] : 0;
        }

        int letsOf(int side) {
            return isSide(side) ? lets[side] : 0;
        }

        void tellLevel(int side, int level) {
            if (isSide(side)) {
                levels[side] = level;
            }
        }

        void tellLets(int side, int values) {
            if (isSide(side)) {
                lets[side] = values;
            }
        }

        int levelOrLets(int asked) {
            if (isSide(asked)) {
                return levels[asked];
            }
            return isSide(asked - 10) ? lets[asked - 10] : NONE;
        }

        boolean letsTriple(int triple) {
            return (lets[0] >> numberIn(triple, 0) & lets[1] >> numberIn(triple, 1)
                    & lets[2] >> numberIn(triple, 2) & 1) != 0;
        }

        boolean keepsAll(int parts) {
            return (keeps & parts) == parts;
        }

        boolean coversSides(Cut asking, Shape shape) {
            for (int side = 0; side < SIDES; side++) {
                if (!coversSide(side, asking, shape)) {
                    return false;
                }
            }
            return true;
        }

        private boolean coversSide(int side, Cut asking, Shape shape) {
            int level = levelOf(side);
            if (level > asking.levelOf(side) || (asking.letsOf(side) & ~letsOf(side)) != 0) {
                return false;
            }
            for (int number = 0; number < VALUES; number++) {
                int own = shape.valuesWithin(side, level, number, number) & letsOf(side);
                int inside = own & asking.letsOf(side);
                if (inside != 0 && inside != own) {
                    return false;
                }
            }
            return true;
        }

        /** As its numbers lie in the span wholly or not at all, a value that is not in it tells of a number that is not. */
        int leftOutFor(Cut asking) {
            int sides = 0;
            for (int side = 0; side < SIDES; side++) {
                if ((letsOf(side) & ~asking.letsOf(side)) != 0) {
                    sides |= 1 << side;
                }
            }
            return sides;
        }

        int rolledUpFor(Cut asking) {
            int sides = 0;
            for (int side = 0; side < SIDES; side++) {
                if (levelOf(side) < asking.levelOf(side)) {
                    sides |= 1 << side;
                }
            }
            return sides;
        }

        /** Whether a group of this cut, that covers the asking one, lies in all its spans. */
        boolean liesIn(int key, Cut asking, Shape shape) {
            for (int side = 0; side < SIDES; side++) {
                int number = numberIn(key, side);
                int own = shape.valuesWithin(side, levelOf(side), number, number) & letsOf(side);
                if ((own & asking.letsOf(side)) == 0) {
                    return false;
                }
            }
            return true;
        }

        int rolledKey(int key, Cut asking, Shape shape) {
            return tripleOf(
                    rolledNumber(0, key, asking, shape),
                    rolledNumber(1, key, asking, shape),
                    rolledNumber(2, key, asking, shape));
        }

        private int rolledNumber(int side, int key, Cut asking, Shape shape) {
            int number = numberIn(key, side);
            int to = asking.levelOf(side);
            if (levelOf(side) == to) {
                return number;
            }
            return levelOf(side) == 0 ? shape.numberOf(side, to, number) : 0;
        }
    }

    /** Reads shapes, summaries and questions off the tape, into a shape and a cut of its own. */
    private static final class FormReader {
        private final Tape tape;
        private final Shape shape = new Shape();
        private final Cut cut = new Cut();

        FormReader(Tape tape) {
            this.tape = tape;
        }

        int readShape(Shape before) {
            shape.copyFrom(before);
            int told = 0;
            int lines = 0;
            for (int i = 0; i < SHAPE_MOST; i++) {
                told |= readLine(told);
                lines++;
                if (tape.peek() != ';') {
                    break;
                }
                tape.step();
            }
            tape.takeEnd();
            return lines;
        }

        /** The bit of the value that the line tells. */
        private int readLine(int told) {
            int start = tape.place;
            int side = readSide();
            int value = readDigit(VALUES - 1);
            int bit = 1 << side * VALUES + value;
            if ((told & bit) != 0) {
                tape.failAt(FAULT_TWICE, start);
            }
            tape.take('=');
            shape.tell(side, value, readDigit(COARSE_ONES - 1));
            return bit;
        }

        void readSummary(Shape shape) {
            cut.clear();
            readLevels();
            tape.take(':');
            readParts();
            readSpans(shape);
        }

        void readQuestion(Shape shape) {
            cut.clear();
            cut.what = whatOf(tape.peek());
            if (cut.what == NONE) {
                tape.fail(FAULT_WRONG);
            }
            tape.step();
            tape.take(':');
            readLevels();
            readSpans(shape);
        }

        private void readLevels() {
            for (int side = 0; side < SIDES; side++) {
                cut.tellLevel(side, readLevel(LEVELS - 1));
            }
        }

        private void readParts() {
            for (int i = 0; i < FORM_MOST; i++) {
                int part = whatOf(tape.peek());
                if (part < 0 || part >= WHAT_AVERAGE) {
                    break;
                }
                if (cut.keepsAll(1 << part)) {
                    tape.fail(FAULT_TWICE);
                }
                cut.keeps |= 1 << part;
                tape.step();
            }
            if (cut.keeps == 0) {
                tape.fail(FAULT_WRONG);
            }
        }

        private void readSpans(Shape shape) {
            int told = 0;
            for (int i = 0; i < FORM_MOST && tape.peek() == ';'; i++) {
                tape.step();
                told |= readSpan(told, shape);
            }
            tape.takeEnd();
        }

        /** The bit of the side that the span is of. */
        private int readSpan(int told, Shape shape) {
            int start = tape.place;
            int side = readSide();
            if ((told >> side & 1) != 0) {
                tape.failAt(FAULT_TWICE, start);
            }
            int level = readLevel(1);
            tape.take('=');
            int from = readDigit(VALUES - 1);
            tape.take('-');
            int last = tape.place;
            int to = readDigit(VALUES - 1);
            if (from > to) {
                tape.failAt(FAULT_BOUNDS, last);
            }
            cut.tellLets(side, shape.valuesWithin(side, level, from, to));
            return 1 << side;
        }

        private int readSide() {
            int side = tape.peek() - 'a';
            if (!isSide(side)) {
                tape.fail(FAULT_WRONG);
                return 0;
            }
            tape.step();
            return side;
        }

        private int readDigit(int most) {
            int digit = tape.peek() - '0';
            if (digit < 0 || digit > most) {
                tape.fail(FAULT_WRONG);
                return 0;
            }
            tape.step();
            return digit;
        }

        private int readLevel(int most) {
            int sign = tape.peek();
            if (isDigit(sign) && sign - '0' > most) {
                tape.fail(FAULT_BOUNDS);
            }
            return readDigit(most);
        }

        private static int whatOf(int sign) {
            switch (sign) {
                case 's':
                    return 0;
                case 'c':
                    return 1;
                case 'n':
                    return 2;
                case 'x':
                    return 3;
                case 'v':
                    return WHAT_AVERAGE;
                case 'd':
                    return WHAT_UNLIKE;
                case 'm':
                    return WHAT_MIDDLE;
                default:
                    return NONE;
            }
        }
    }

    /** Its groups are had anew of its first facts whenever they are asked for; only how many is noted. */
    private static final class Summary {
        private final Cut cut = new Cut();
        private int upto = 0;
        private int groups = 0;

        void copyFrom(Summary other) {
            cut.copyFrom(other.cut);
            upto = other.upto;
            groups = other.groups;
        }
    }

    /** The summaries that there are, in rows that are made once and used again. */
    private static final class Shelf {
        private final Summary[] rows = new Summary[SUMMARIES_MOST];
        private int size = 0;

        Shelf() {
            for (int i = 0; i < SUMMARIES_MOST; i++) {
                rows[i] = new Summary();
            }
        }

        /** Null if there is no such one. */
        Summary at(int i) {
            return i >= 0 && i < size && i < SUMMARIES_MOST ? rows[i] : null;
        }

        /** Null if there is no room. */
        Summary addOne() {
            if (size >= SUMMARIES_MOST) {
                return null;
            }
            size++;
            return at(size - 1);
        }

        void remove(int i) {
            Summary gone = at(i);
            if (gone == null) {
                return;
            }
            for (int j = i + 1; j < size && j < SUMMARIES_MOST; j++) {
                rows[j - 1] = rows[j];
            }
            size--;
            rows[size] = gone;
        }

        void copyFrom(Shelf other) {
            size = other.size;
            for (int i = 0; i < size; i++) {
                Summary to = at(i);
                Summary from = other.at(i);
                if (to != null && from != null) {
                    to.copyFrom(from);
                }
            }
        }
    }

    /** The facts in the order in which they came. */
    private static final class Facts {
        private final int[] triples = new int[FACTS_MOST];
        private final int[] measures = new int[FACTS_MOST];
        private int size = 0;
        private final int[] byMeasure = new int[FACTS_MOST];
        private final int[] ranksOf = new int[MEASURES + 1];
        private final int[] met = new int[TRIPLES];

        void add(int triple, int measure) {
            if (size < FACTS_MOST) {
                triples[size] = triple;
                measures[size] = measure;
                size++;
            }
        }

        int tripleAt(int f) {
            return f >= 0 && f < FACTS_MOST ? triples[f] : 0;
        }

        int measureAt(int f) {
            return f >= 0 && f < FACTS_MOST ? measures[f] : 0;
        }

        int measuresAdded() {
            int sum = 0;
            for (int f = 0; f < size; f++) {
                sum += measureAt(f);
            }
            return sum;
        }

        int letBy(Cut cut, int from) {
            int let = 0;
            for (int f = from; f < size; f++) {
                if (cut.letsTriple(tripleAt(f))) {
                    let++;
                }
            }
            return let;
        }

        void tally(Table table, Cut cut, Shape shape, int from, int to) {
            for (int f = from; f < to; f++) {
                int triple = tripleAt(f);
                if (cut.letsTriple(triple)) {
                    table.addFact(shape.keyOf(triple, cut), measureAt(f));
                }
            }
        }

        /** By rising measure like ones of a group come one behind the other, and the middle one is met by counting. */
        void tallySingled(Table table, Cut asking, Shape shape) {
            sortByMeasure();
            Arrays.fill(met, 0);
            for (int i = 0; i < size && i < FACTS_MOST; i++) {
                int triple = tripleAt(byMeasure[i]);
                if (!asking.letsTriple(triple)) {
                    continue;
                }
                int key = shape.keyOf(triple, asking);
                int measure = measureAt(byMeasure[i]);
                if (asking.what == WHAT_UNLIKE) {
                    meetUnlike(table, key, measure);
                } else {
                    meetMiddle(table, key, measure);
                }
            }
        }

        private void meetUnlike(Table table, int key, int measure) {
            if (key < 0 || key >= TRIPLES) {
                return;
            }
            // 0 stands for none met, so the measure is noted one higher.
            if (met[key] == 0) {
                table.single(key, 1);
            } else if (met[key] != measure + 1) {
                table.single(key, table.singledAt(key) + 1);
            }
            met[key] = measure + 1;
        }

        private void meetMiddle(Table table, int key, int measure) {
            if (key < 0 || key >= TRIPLES) {
                return;
            }
            met[key]++;
            if (met[key] == (table.countAt(key) + 1) / 2) {
                table.single(key, measure);
            }
        }

        private void sortByMeasure() {
            Arrays.fill(ranksOf, 0);
            for (int f = 0; f < size; f++) {
                countMeasure(measureAt(f));
            }
            for (int measure = 1; measure <= MEASURES; measure++) {
                ranksOf[measure] += ranksOf[measure - 1];
            }
            for (int f = 0; f < size; f++) {
                int rank = nextRank(measureAt(f));
                if (rank >= 0 && rank < FACTS_MOST) {
                    byMeasure[rank] = f;
                }
            }
        }

        private void countMeasure(int measure) {
            if (measure >= 0 && measure < MEASURES) {
                ranksOf[measure + 1]++;
            }
        }

        private int nextRank(int measure) {
            if (measure < 0 || measure >= MEASURES) {
                return NONE;
            }
            ranksOf[measure]++;
            return ranksOf[measure] - 1;
        }
    }

    /** Groups by their triples, which are their places: so they need no sorting. */
    private static final class Table {
        private final int[] counts = new int[TRIPLES];
        private final int[] sums = new int[TRIPLES];
        private final int[] leasts = new int[TRIPLES];
        private final int[] greatests = new int[TRIPLES];
        private final int[] singled = new int[TRIPLES];
        private int size = 0;

        void clear() {
            Arrays.fill(counts, 0);
            size = 0;
        }

        boolean hasKey(int key) {
            return key >= 0 && key < TRIPLES && counts[key] > 0;
        }

        int countAt(int key) {
            return key >= 0 && key < TRIPLES ? counts[key] : 0;
        }

        int singledAt(int key) {
            return key >= 0 && key < TRIPLES ? singled[key] : 0;
        }

        void single(int key, int value) {
            if (key >= 0 && key < TRIPLES) {
                singled[key] = value;
            }
        }

        void addFact(int key, int measure) {
            addParts(key, 1, measure, measure, measure);
        }

        void addGroup(int key, Table other, int otherKey) {
            if (other.hasKey(otherKey)) {
                addParts(key, other.counts[otherKey], other.sums[otherKey],
                        other.leasts[otherKey], other.greatests[otherKey]);
            }
        }

        private void addParts(int key, int count, int sum, int least, int greatest) {
            if (key < 0 || key >= TRIPLES) {
                return;
            }
            if (counts[key] == 0) {
                size++;
                counts[key] = count;
                sums[key] = sum;
                leasts[key] = least;
                greatests[key] = greatest;
                return;
            }
            counts[key] += count;
            sums[key] += sum;
            leasts[key] = Math.min(leasts[key], least);
            greatests[key] = Math.max(greatests[key], greatest);
        }

        /** The i-th group's triple, rising; NONE if there are not so many. */
        int keyAt(int i) {
            if (i < 0 || i >= size) {
                return NONE;
            }
            int left = i;
            for (int key = 0; key < TRIPLES; key++) {
                if (counts[key] > 0) {
                    if (left == 0) {
                        return key;
                    }
                    left--;
                }
            }
            return NONE;
        }

        int valueAt(int key, int what) {
            if (!hasKey(key)) {
                return 0;
            }
            switch (what) {
                case 0:
                    return sums[key];
                case 1:
                    return counts[key];
                case 2:
                    return leasts[key];
                case 3:
                    return greatests[key];
                case WHAT_AVERAGE:
                    return counts[key] > 0 ? sums[key] / counts[key] : 0;
                default:
                    return singled[key];
            }
        }

        /** Of all values the greatest that still has more than i groups at or above it is that of the group looked for. */
        int rankedKeyAt(int i, int what) {
            if (i < 0 || i >= size) {
                return NONE;
            }
            int low = 0;
            int high = FACTS_MOST * MEASURES;
            for (int halving = 0; halving < 32 && low < high; halving++) {
                int middle = low + (high - low + 1) / 2;
                if (groupsFrom(middle, what) > i) {
                    low = middle;
                } else {
                    high = middle - 1;
                }
            }
            return keyOfLike(low, i - groupsFrom(low + 1, what), what);
        }

        private int groupsFrom(int least, int what) {
            int some = 0;
            for (int key = 0; key < TRIPLES; key++) {
                if (counts[key] > 0 && valueAt(key, what) >= least) {
                    some++;
                }
            }
            return some;
        }

        private int keyOfLike(int value, int i, int what) {
            int left = i;
            for (int key = 0; key < TRIPLES; key++) {
                if (counts[key] > 0 && valueAt(key, what) == value) {
                    if (left == 0) {
                        return key;
                    }
                    left--;
                }
            }
            return NONE;
        }

        int unlikeGroups(Table other, int what) {
            int unlikeOnes = 0;
            for (int key = 0; key < TRIPLES; key++) {
                if (hasKey(key) != other.hasKey(key) || valueAt(key, what) != other.valueAt(key, what)) {
                    unlikeOnes++;
                }
            }
            return unlikeOnes;
        }
    }

    /** The nodes, how many groups each has, and which of them one should keep. */
    private static final class Lattice {
        private final int[] groupCounts = new int[NODES];
        private final int[] nodesBelow = new int[NODES];
        private final int[] least = new int[NODES];
        private final int[] picks = new int[PICKS_MOST];
        private int pickedPrice = 0;
        private final int[] rows = new int[ROWS];
        private final int[] rowsAtLevel = new int[ROWS];
        private final int[] merged = new int[ROWS];
        private int facts = 0;

        Lattice() {
            for (int other = 0; other < NODES; other++) {
                int bits = 0;
                for (int node = 0; node < NODES; node++) {
                    if (isNoFiner(node, other)) {
                        bits |= 1 << node;
                    }
                }
                nodesBelow[other] = bits;
            }
        }

        private static boolean isNoFiner(int node, int other) {
            for (int side = 0; side < SIDES; side++) {
                if (levelIn(node, side) < levelIn(other, side)) {
                    return false;
                }
            }
            return true;
        }

        boolean isBelow(int node, int other) {
            return isNode(node) && isNode(other) && (nodesBelow[other] >> node & 1) != 0;
        }

        int groupsOf(int node) {
            return isNode(node) ? groupCounts[node] : 0;
        }

        int pickAt(int i) {
            return i >= 0 && i < PICKS_MOST ? picks[i] : NONE;
        }

        /** A row has a bit for each number of c that there is with its numbers of a and b: the bits are the groups. */
        void recount(Facts all, Shape shape) {
            facts = all.size;
            Arrays.fill(rows, 0);
            for (int f = 0; f < facts; f++) {
                int triple = all.tripleAt(f);
                rows[triple >> 3 & ROWS - 1] |= 1 << (triple & 7);
            }
            for (int level = 0; level < LEVELS; level++) {
                for (int row = 0; row < ROWS; row++) {
                    rowsAtLevel[row] = shape.numbersOf(2, level, rows[row]);
                }
                for (int node = level; node < NODES; node += LEVELS) {
                    groupCounts[node] = mergedGroups(node, shape);
                }
            }
        }

        private int mergedGroups(int node, Shape shape) {
            Arrays.fill(merged, 0);
            for (int row = 0; row < ROWS; row++) {
                if (rowsAtLevel[row] != 0) {
                    int a = shape.numberOf(0, levelIn(node, 0), row >> 3);
                    int b = shape.numberOf(1, levelIn(node, 1), row & 7);
                    merged[(a << 3 | b) & ROWS - 1] |= rowsAtLevel[row];
                }
            }
            int some = 0;
            for (int row = 0; row < ROWS; row++) {
                some += Integer.bitCount(merged[row]);
            }
            return some;
        }

        int priceOf(int some) {
            tellNone();
            for (int node = 0; node < NODES; node++) {
                if ((some >> node & 1) != 0) {
                    tell(node);
                }
            }
            int sum = 0;
            for (int node = 0; node < NODES; node++) {
                sum += least[node];
            }
            return sum;
        }

        void pickGreedily(int k) {
            tellNone();
            int told = 0;
            for (int i = 0; i < k && i < PICKS_MOST; i++) {
                pickNext(i, told);
                told |= 1 << picks[i];
                tell(picks[i]);
            }
        }

        private void pickNext(int i, int told) {
            int found = NONE;
            for (int node = 0; node < NODES; node++) {
                if ((told >> node & 1) == 0) {
                    int price = priceWith(node);
                    if (found == NONE || price < pickedPrice) {
                        found = node;
                        pickedPrice = price;
                    }
                }
            }
            if (i >= 0 && i < PICKS_MOST) {
                picks[i] = found;
            }
        }

        void pickBestTwo() {
            boolean found = false;
            for (int first = 0; first < NODES; first++) {
                tellNone();
                tell(first);
                for (int second = first + 1; second < NODES; second++) {
                    int price = priceWith(second);
                    if (!found || price < pickedPrice) {
                        found = true;
                        pickedPrice = price;
                        picks[0] = first;
                        picks[1] = second;
                    }
                }
            }
        }

        private void tellNone() {
            Arrays.fill(least, facts);
        }

        private void tell(int told) {
            for (int node = 0; node < NODES; node++) {
                if (isBelow(node, told)) {
                    least[node] = Math.min(least[node], groupsOf(told));
                }
            }
        }

        private int priceWith(int told) {
            int sum = 0;
            for (int node = 0; node < NODES; node++) {
                sum += isBelow(node, told) ? Math.min(least[node], groupsOf(told)) : least[node];
            }
            return sum;
        }
    }
}
