/** The promises of the question and of the lattice: 16 to 28. */
final class AskingSentences extends Sentences {
    private static final int[] FAR = {-1, -2, -4, 8, Integer.MIN_VALUE, Integer.MAX_VALUE};

    AskingSentences(Document document) {
        super(document);
    }

    @Override
    void all() {
        promise(16);
        covers();
        promise(17);
        coverIs();
        promise(18);
        way();
        promise(19);
        answer();
        promise(20);
        ranked();
        promise(21);
        answerBy();
        promise(22);
        unlike();
        promise(23);
        node();
        promise(24);
        below();
        promise(25);
        price();
        promise(26);
        greedy();
        promise(27);
        best();
        promise(28);
        madeOf();
    }

    private void covers() {
        said("A SUMMARY COVERS the QUESTION: 1, 0", () -> {
            for (int i = 0; i < 8; i++) {
                summary(i % 2 == 0 ? "000:s" : "222:s");
            }
            question("s:222;a0=0-0");
            dueAll(i -> x.covers(i), 1, 0, 1, 0, 1, 0, 1, 0);
            question("s:222");
            dueAll(i -> x.covers(i), 1, 1, 1, 1, 1, 1, 1, 1);
        });
        said("no QUESTION yet: -2", () -> {
            summary("000:scnx");
            due(x.covers(0), -2);
            question("?");
            due(x.covers(0), -2);
            question("s:000");
            due(x.covers(0), 1);
        });
        said("NONE: no such one.", () -> {
            due(x.covers(0), -1);
            summary("000:s");
            due(x.covers(1), -1);
            question("s:000");
            due(x.covers(1), -1);
            for (int not : FAR) {
                due(x.covers(not), -1);
            }
            due(x.covers(-3), -1);
        });
    }

    private void coverIs() {
        said("Of a SUMMARY that COVERS the QUESTION, what 0 LEFT OUT (bits of SIDES), 1 ROLLED UP (bits), "
                + "2 FRESH FACTS that the QUESTION's SPANS let (COMPENSATION), 3 its GROUPS that lie in them", () -> {
            fiveFacts();
            summary("001:s;b0=0-6");
            question("s:012;a0=0-1;b0=0-6");
            dueAll(what -> x.coverIs(0, what), 1, 6, 0, 2);
            x.fact(0, 6, 0, 1);
            x.fact(1, 7, 0, 1);
            x.fact(2, 6, 0, 1);
            dueAll(what -> x.coverIs(0, what), 1, 6, 1, 2);
            x.renew(0);
            summary("222:s");
            dueAll(what -> x.coverIs(0, what), 1, 6, 0, 3);
            x.drop(1);
            question("s:222;b1=7-7");
            x.fact(0, 0, 0, 1);
            dueAll(what -> x.coverIs(0, what), 2, 7, 0, 0);
            question("s:001;b0=0-6");
            dueAll(what -> x.coverIs(0, what), 0, 0, 1, 5);
            // A summary of none of the facts.
            fresh();
            summary("000:s");
            question("s:000");
            dueAll(what -> x.coverIs(0, what), 0, 0, 0, 0);
            draw(240);
            dueAll(what -> x.coverIs(0, what), 0, 0, 240, 0);
        });
        said("-2: no QUESTION, it does not", () -> {
            summary("222:s");
            dueAll(what -> x.coverIs(0, what), -2, -2, -2, -2, -1);
            question("c:222");
            dueAll(what -> x.coverIs(0, what), -2, -2, -2, -2, -1);
            question("s:022");
            dueAll(what -> x.coverIs(0, what), -2, -2, -2, -2, -1);
            question("s:222");
            dueAll(what -> x.coverIs(0, what), 0, 0, 0, 0, -1);
        });
        said("NONE: no such ones.", () -> {
            due(x.coverIs(0, 0), -1);
            summary("222:s");
            due(x.coverIs(1, 0), -1);
            question("s:222");
            due(x.coverIs(1, 0), -1);
            due(x.coverIs(0, -1), -1);
            due(x.coverIs(0, 4), -1);
            for (int not : FAR) {
                due(x.coverIs(not, 0), -1);
                due(x.coverIs(0, not), -1);
            }
            due(x.coverIs(-3, 0), -1);
        });
    }

    private void way() {
        said("THE WAY, what 0 the SUMMARY (the FACTS: -3), 1 its COST", () -> {
            fiveFacts();
            question("v:122");
            due(x.way(0), -3);
            due(x.way(1), 5);
            summary("000:s");
            summary("000:sc");
            due(x.way(0), 1);
            due(x.way(1), 4);
            x.fact(0, 0, 0, 1);
            due(x.way(0), 1);
            due(x.way(1), 5);
            x.drop(1);
            due(x.way(0), -3);
            due(x.way(1), 6);
        });
        said("no QUESTION yet: -2", () -> {
            due(x.way(0), -2);
            due(x.way(1), -2);
            fiveFacts();
            summary("000:scnx");
            question("?");
            due(x.way(0), -2);
            due(x.way(1), -2);
        });
        said("NONE: no such what.", () -> {
            due(x.way(-1), -1);
            due(x.way(2), -1);
            question("s:222");
            due(x.way(2), -1);
            for (int not : FAR) {
                due(x.way(not), -1);
            }
        });
    }

    private void answer() {
        said("THE ANSWER by THE WAY, GROUP i, what 0 to 2 the numbers, 3 WHAT of it", () -> {
            fiveFacts();
            for (int told = 0; told < 2; told++) {
                question("v:011");
                dueAll(what -> x.answer(0, what), 0, 0, 0, 25);
                dueAll(what -> x.answer(1, what), 1, 0, 0, 20);
                dueAll(what -> x.answer(2, what), 2, 1, 0, 30);
                dueAll(what -> x.answer(3, what), 7, 3, 3, 5);
                due(x.way(0), told == 0 ? -3 : 0);
                summary("000:sc");
            }
        });
        said("-4: there are not so many", () -> {
            question("s:000");
            due(x.answer(0, 0), -4);
            due(x.answer(0, 3), -4);
            fiveFacts();
            due(x.answer(3, 3), 5);
            due(x.answer(4, 3), -4);
            due(x.answer(4, 0), -4);
            due(x.answer(Integer.MAX_VALUE, 0), -4);
            question("s:222;a1=4-4");
            due(x.answer(0, 0), -4);
            fresh();
            fill(240);
            question("s:000");
            due(x.answer(239, 3), 39);
            due(x.answer(240, 3), -4);
        });
        said("no QUESTION yet: -2", () -> {
            fiveFacts();
            summary("000:s");
            dueAll(what -> x.answer(0, what), -2, -2, -2, -2, -1);
            due(x.answer(99, 0), -2);
            question("?");
            due(x.answer(0, 0), -2);
        });
        said("NONE: no such ones.", () -> {
            due(x.answer(0, -1), -1);
            due(x.answer(0, 4), -1);
            due(x.answer(-1, 0), -1);
            fiveFacts();
            question("s:000");
            for (int not : FAR) {
                due(x.answer(0, not), -1);
            }
            due(x.answer(0, 4), -1);
            due(x.answer(9, 4), -1);
            due(x.answer(-1, 0), -1);
            due(x.answer(Integer.MIN_VALUE, 3), -1);
        });
    }

    private void ranked() {
        said("THE ANSWER by THE WAY, GROUP i by WHAT of it, the greatest first (of like ones that which comes first by a, b, c), "
                + "what as answer()", () -> {
            int[] measures = {5, 9, 5, 0, 9};
            for (int a = 0; a < 5; a++) {
                x.fact(a, 0, a, measures[a]);
            }
            int[] order = {1, 4, 0, 2, 3};
            for (int told = 0; told < 2; told++) {
                question("s:020");
                for (int i = 0; i < 5; i++) {
                    int of = i;
                    dueAll(what -> x.ranked(of, what), order[i], 0, order[i], measures[order[i]]);
                }
                summary("000:s");
                due(x.way(0), 0);
            }
            question("m:022");
            dueAll(i -> x.ranked(i, 0), order);
            question("c:022");
            dueAll(i -> x.ranked(i, 0), 0, 1, 2, 3, 4);
            // Like ones that b alone, or c alone, tells apart.
            fresh();
            x.fact(3, 1, 0, 7);
            x.fact(3, 0, 1, 7);
            x.fact(3, 0, 0, 7);
            x.fact(0, 7, 7, 0);
            question("x:000");
            dueAll(i -> x.ranked(i, 1), 0, 0, 1, 7);
            dueAll(i -> x.ranked(i, 2), 0, 1, 0, 7);
        });
        said("the greatest first", () -> {
            law("m99(1=1)");
            draw(240);
            x.keep();
            question("s:222");
            due(x.ranked(0, 3), 23760);
            due(x.ranked(1, 3), -4);
            fresh();
            for (int i = 0; i < 240; i++) {
                x.fact(i % 8, i / 8 % 8, i / 64, i * 7 % 100);
            }
            question("s:000");
            for (int i = 1; i < 240; i += 2) {
                due(x.ranked(i - 1, 3) >= x.ranked(i, 3), true);
            }
        });
        said("-4, -2, NONE as answer().", () -> {
            dueAll(what -> x.ranked(0, what), -2, -2, -2, -2, -1);
            due(x.ranked(-1, 0), -1);
            due(x.ranked(0, -1), -1);
            question("s:000");
            due(x.ranked(0, 0), -4);
            fiveFacts();
            due(x.ranked(3, 3), 5);
            due(x.ranked(4, 0), -4);
            due(x.ranked(4, 3), -4);
            due(x.ranked(Integer.MAX_VALUE, 0), -4);
            due(x.ranked(4, 4), -1);
            due(x.ranked(-1, 0), -1);
            for (int not : FAR) {
                due(x.ranked(0, not), -1);
            }
        });
    }

    private void answerBy() {
        said("THE ANSWER by a SUMMARY (-3: by the FACTS), GROUP i, what as answer()", () -> {
            fiveFacts();
            summary("000:scnx");
            summary("111:scnx;a0=0-1");
            x.fact(1, 1, 1, 3);
            due(question("v:112;a0=0-1"), 1);
            for (int by : new int[] {-3, 0, 1}) {
                dueAll(what -> x.answerBy(by, 0, what), 0, 0, 0, 18, -1);
                due(x.answerBy(by, 1, 0), -4);
            }
            question("x:122");
            for (int by : new int[] {-3, 0}) {
                dueAll(i -> x.answerBy(by, i, 3), 40, 30, 5, -4);
                dueAll(i -> x.answerBy(by, i, 0), 0, 1, 3, -4);
            }
            // Those that no summary tells, by the facts.
            question("m:222");
            due(x.answerBy(-3, 0, 3), 10);
            question("d:222");
            due(x.answerBy(-3, 0, 3), 6);
        });
        said("-5: it does not COVER", () -> {
            fiveFacts();
            summary("111:s");
            question("s:022");
            due(x.answerBy(0, 0, 0), -5);
            due(x.answerBy(0, 99, 3), -5);
            question("c:222");
            due(x.answerBy(0, 0, 3), -5);
            due(x.answerBy(-3, 0, 3), 5);
            question("d:222");
            due(x.answerBy(0, 0, 3), -5);
            question("s:222");
            due(x.answerBy(0, 0, 3), 105);
        });
        said("-4, -2, NONE as answer().", () -> {
            fiveFacts();
            summary("000:s");
            due(x.answerBy(0, 0, 0), -2);
            due(x.answerBy(-3, 0, 3), -2);
            due(x.answerBy(0, 99, 0), -2);
            due(x.answerBy(0, 0, 4), -1);
            due(x.answerBy(-3, -1, 0), -1);
            due(x.answerBy(1, 0, 0), -1);
            question("s:000");
            due(x.answerBy(0, 3, 3), 5);
            due(x.answerBy(0, 4, 3), -4);
            due(x.answerBy(-3, 4, 3), -4);
            due(x.answerBy(-3, Integer.MAX_VALUE, 0), -4);
            for (int not : FAR) {
                due(x.answerBy(not, 0, 0), -1);
                due(x.answerBy(0, 0, not), -1);
                due(x.answerBy(-3, 0, not), -1);
            }
            due(x.answerBy(0, 0, 4), -1);
            due(x.answerBy(0, -1, 0), -1);
            due(x.answerBy(1, 0, 0), -1);
        });
    }

    private void unlike() {
        said("How many GROUPS of THE ANSWER by a SUMMARY that COVERS are not as by the FACTS, or there alone", () -> {
            summary("000:scnx");
            question("v:122");
            due(x.unlike(0), 0);
            fiveFacts();
            due(x.unlike(0), 0);
            x.renew(0);
            due(x.unlike(0), 0);
            x.keep();
            x.fact(5, 4, 4, 44);
            x.renew(0);
            x.undo();
            x.fact(6, 4, 4, 11);
            for (String text : new String[] {"s:000", "c:111;a0=0-3", "n:012;b0=3-3", "x:222;c1=4-4", "v:210;a0=6-6"}) {
                question(text);
                due(x.unlike(0), 0);
            }
            x.drop(0);
            draw(234);
            summary("111:sc;a0=1-4");
            question("v:122;a0=2-3");
            due(x.unlike(0), 0);
        });
        said("-2: no QUESTION, it does not", () -> {
            summary("111:s");
            due(x.unlike(0), -2);
            question("s:011");
            due(x.unlike(0), -2);
            question("m:111");
            due(x.unlike(0), -2);
            question("s:111");
            due(x.unlike(0), 0);
        });
        said("NONE: no such one.", () -> {
            due(x.unlike(0), -1);
            summary("000:s");
            due(x.unlike(1), -1);
            question("s:000");
            due(x.unlike(1), -1);
            due(x.unlike(-3), -1);
            for (int not : FAR) {
                due(x.unlike(not), -1);
            }
        });
    }

    private void node() {
        said("GROUPS of a node of the LATTICE (0 to 26)", () -> {
            due(x.node(0), 0);
            due(x.node(26), 0);
            fiveFacts();
            due(x.node(0), 4);
            due(x.node(13), 3);
            due(x.node(25), 2);
            due(x.node(26), 1);
            fresh();
            fill(240);
            due(x.node(0), 240);
            due(x.node(26), 1);
        });
        said("NONE: no such one.", () -> {
            fiveFacts();
            for (int not : new int[] {-1, 27, Integer.MIN_VALUE, Integer.MAX_VALUE}) {
                due(x.node(not), -1);
            }
        });
    }

    private void below() {
        said("A node is BELOW another one (or it): 1, 0", () -> {
            for (int node = 0; node < 27; node++) {
                due(x.below(node, node), 1);
                due(x.below(node, 0), 1);
                due(x.below(26, node), 1);
                due(x.below(0, node), node == 0 ? 1 : 0);
                due(x.below(node, 26), node == 26 ? 1 : 0);
            }
            due(x.below(9, 3), 0);
            due(x.below(3, 1), 0);
            due(x.below(12, 9), 1);
        });
        said("NONE: no such ones.", () -> {
            for (int not : new int[] {-1, 27, Integer.MIN_VALUE, Integer.MAX_VALUE}) {
                due(x.below(not, 0), -1);
                due(x.below(0, not), -1);
                due(x.below(not, not), -1);
            }
        });
    }

    private void price() {
        said("PRICE of some nodes (bits 0 to 134217727).", () -> {
            due(x.price(0), 0);
            due(x.price(134217727), 0);
            fiveFacts();
            due(x.price(0), 27 * 5);
            due(x.price(1), 27 * 4);
            due(x.price(1 << 26), 26 * 5 + 1);
            // With a at 0 four groups, at 1 three; with all of a in one three, but 2 and 1 with b so, too, and c at 1 and 2.
            due(x.price(134217727), 9 * 4 + 9 * 3 + 7 * 3 + 2 + 1);
        });
        said("NONE: no such ones.", () -> {
            for (int not : new int[] {-1, 134217728, Integer.MIN_VALUE, Integer.MAX_VALUE}) {
                due(x.price(not), -1);
            }
        });
    }

    private void greedy() {
        said("GREEDY, k nodes (1 to 6), what 0 the PRICE, 10 + i the i-th node (0 on)", () -> {
            x.fact(0, 0, 0, 1);
            x.fact(0, 0, 1, 2);
            x.fact(0, 0, 1, 2);
            int[] prices = {45, 36, 36, 36, 36, 36};
            int[] nodes = {1, 0, 2, 3, 4, 5};
            for (int k = 1; k <= 6; k++) {
                due(x.greedy(k, 0), prices[k - 1]);
                for (int i = 0; i < k; i++) {
                    due(x.greedy(k, 10 + i), nodes[i]);
                }
            }
        });
        said("NONE: no such ones.", () -> {
            for (int not : new int[] {0, -1, 7, Integer.MIN_VALUE, Integer.MAX_VALUE}) {
                due(x.greedy(not, 0), -1);
                due(x.greedy(not, 10), -1);
            }
            for (int k = 1; k <= 6; k++) {
                due(x.greedy(k, 10 + k - 1), k - 1);
                due(x.greedy(k, 10 + k), -1);
                for (int not : new int[] {-1, 1, 9, 16, 26, Integer.MIN_VALUE, Integer.MAX_VALUE}) {
                    due(x.greedy(k, not), -1);
                }
            }
        });
    }

    private void best() {
        said("THE BEST k (1, 2), what 0 the PRICE, 1 the first, 2 the second node", () -> {
            x.fact(0, 0, 0, 1);
            x.fact(0, 0, 1, 2);
            x.fact(0, 0, 1, 2);
            due(x.best(1, 0), 45);
            due(x.best(1, 1), 1);
            dueAll(what -> x.best(2, what), 36, 0, 1);
        });
        said("(of one: -2)", () -> {
            due(x.best(1, 2), -2);
            due(x.best(2, 2), 1);
            fiveFacts();
            due(x.best(1, 2), -2);
        });
        said("NONE: no such ones.", () -> {
            for (int not : new int[] {0, -1, 3, Integer.MIN_VALUE, Integer.MAX_VALUE}) {
                dueAll(what -> x.best(not, what), -1, -1, -1);
            }
            for (int not : new int[] {-1, 3, 10, Integer.MIN_VALUE, Integer.MAX_VALUE}) {
                due(x.best(1, not), -1);
                due(x.best(2, not), -1);
            }
        });
    }

    private void madeOf() {
        said("SUMMARIES that a SUMMARY could be made of (those that COVER it as a QUESTION of each of its PARTS, "
                + "by its LEVELS and what its SPANS let; UPTO left aside): bits,", () -> {
            summary("000:scnx");
            summary("111:sc");
            summary("122:s;a0=0-1");
            summary("000:s;a0=0-1");
            fiveFacts();
            summary("000:s;a0=0-0");
            summary("111:s;a0=0-0");
            summary("111:scn");
            dueAll(i -> x.madeOf(i), 0, 1 + 64, 1 + 2 + 8 + 64, 1, 1 + 8, 1 + 8 + 16, 1);
            // By what the spans let, not by how they were told; one that lets none is made of any that keeps its part.
            fresh();
            summary("100:s");
            summary("100:s;a1=0-3");
            summary("100:s;a1=0-0");
            summary("100:s;a0=0-1");
            summary("222:s;a1=4-4");
            summary("222:c;a1=4-4");
            dueAll(i -> x.madeOf(i), 2, 1, 1 + 2 + 8, 1 + 2 + 4, 1 + 2 + 4 + 8, 0);
        });
        said("without itself", () -> {
            for (int i = 0; i < 8; i++) {
                summary("222:s");
            }
            for (int i = 0; i < 8; i++) {
                due(x.madeOf(i), 255 - (1 << i));
            }
            fresh();
            summary("222:s");
            due(x.madeOf(0), 0);
        });
        said("NONE: no such one.", () -> {
            due(x.madeOf(0), -1);
            summary("222:s");
            due(x.madeOf(1), -1);
            for (int not : FAR) {
                due(x.madeOf(not), -1);
            }
            due(x.madeOf(-3), -1);
        });
    }
}
