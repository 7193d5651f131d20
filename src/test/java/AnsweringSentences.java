/** What covers a question, what it costs to answer, what one should keep, how facts are drawn, kept and undone. */
final class AnsweringSentences extends Sentences {
    AnsweringSentences(Document document) {
        super(document);
    }

    @Override
    void all() {
        part("A SUMMARY COVERS a QUESTION", "LEFT OUT:");
        partsThatCover();
        levelsThatCover();
        spansThatCover();
        numbersThatCover();
        part("LEFT OUT:", "COST of a SUMMARY");
        leftOut();
        rolledUp();
        part("COST of a SUMMARY", "LATTICE: 27");
        costs();
        ways();
        bySummaries();
        part("LATTICE: 27", "A FACT is drawn");
        nodes();
        prices();
        greedyOnes();
        bestOnes();
        part("A FACT is drawn", "KEPT: FACTS");
        drawnOnes();
        part("KEPT: FACTS", "All memory");
        keptOnes();
        undoneShapes();
        checkedOnes();
        part("All memory", "A call that is refused");
        ownMemory();
        part("The constants:", "## Promise 1:");
        constants();
    }

    private int coversBy(String summary, String question) {
        fresh();
        due(summary(summary), 0);
        question(question);
        return x.covers(0);
    }

    private static String partsOf(int bits) {
        StringBuilder parts = new StringBuilder();
        for (int part = 0; part < 4; part++) {
            if ((bits >> part & 1) != 0) {
                parts.append("scnx".charAt(part));
            }
        }
        return parts.toString();
    }

    /** A text of levels 0, 0, 0 but for one side. */
    private static String levelAt(int side, int level) {
        StringBuilder levels = new StringBuilder("000");
        levels.setCharAt(side, (char) ('0' + level));
        return levels.toString();
    }

    private static String span(int side, int level, int from, int to) {
        return ";" + (char) ('a' + side) + level + "=" + from + "-" + to;
    }

    private void partsThatCover() {
        said("A SUMMARY COVERS a QUESTION if WHAT can be had of its PARTS (s, c, n, x of itself; v of s and c; d, m never)", () -> {
            int[] needed = {1, 2, 4, 8, 3, 16, 16};
            for (int bits = 1; bits < 16; bits++) {
                for (int what = 0; what < 7; what++) {
                    int covers = coversBy("000:" + partsOf(bits), "scnxvdm".charAt(what) + ":000");
                    due(covers, (bits & needed[what]) == needed[what] ? 1 : 0);
                }
            }
        });
    }

    private void levelsThatCover() {
        said("and of each SIDE: its LEVEL is no coarser", () -> {
            for (int side = 0; side < 3; side++) {
                for (int own = 0; own < 3; own++) {
                    for (int asked = 0; asked < 3; asked++) {
                        int covers = coversBy(levelAt(side, own) + ":s", "s:" + levelAt(side, asked));
                        due(covers, own <= asked ? 1 : 0);
                    }
                }
            }
            due(coversBy("012:s", "s:222"), 1);
            due(coversBy("012:s", "s:221"), 0);
        });
    }

    private void spansThatCover() {
        said("the QUESTION's SPAN lets no VALUE that its own does not", () -> {
            for (int side = 0; side < 3; side++) {
                String own = "000:s" + span(side, 0, 2, 5);
                for (int from = 0; from < 8; from++) {
                    for (int to = from; to < 8; to++) {
                        due(coversBy(own, "s:000" + span(side, 0, from, to)), from >= 2 && to <= 5 ? 1 : 0);
                        due(coversBy("000:s", "s:000" + span(side, 0, from, to)), 1);
                    }
                }
                due(coversBy(own, "s:000"), 0);
                due(coversBy(own, "s:000" + span(side, 1, 1, 2)), 1);
                due(coversBy(own, "s:000" + span(side, 1, 1, 3)), 0);
                due(coversBy(own, "s:000" + span(side, 1, 4, 7)), 1);
                due(coversBy(own, "s:000" + span((side + 1) % 3, 0, 2, 5)), 0);
                String none = "000:s" + span(side, 1, 4, 4);
                due(coversBy(none, "s:000" + span(side, 1, 5, 6)), 1);
                due(coversBy(none, "s:000" + span(side, 0, 0, 0)), 0);
                due(coversBy(none, "s:000"), 0);
            }
        });
    }

    private void numbersThatCover() {
        said("and each of its numbers at its LEVEL (the VALUES of a number that its SPAN lets, whether there are FACTS of them or not) "
                + "lies in the QUESTION's SPAN wholly, or not at all.", () -> {
            for (int from = 0; from < 8; from++) {
                for (int to = from; to < 8; to++) {
                    String asked = span(1, 0, from, to);
                    due(coversBy("010:s", "s:010" + asked), from % 2 == 0 && to % 2 == 1 ? 1 : 0);
                    due(coversBy("020:s", "s:020" + asked), from == 0 && to == 7 ? 1 : 0);
                    // Of 1 to 6 the numbers are 1; 2, 3; 4, 5; 6.
                    boolean let = from >= 1 && to <= 6;
                    boolean whole = (from == 1 || from % 2 == 0) && (to == 6 || to % 2 == 1);
                    due(coversBy("010:s;b0=1-6", "s:010" + asked), let && whole ? 1 : 0);
                    due(coversBy("020:s;b0=1-6", "s:020" + asked), from == 1 && to == 6 ? 1 : 0);
                }
            }
            due(coversBy("020:s", "s:020;b1=4-7"), 1);
            due(coversBy("010:s", "s:020;b1=0-2"), 1);
        });
        said("(the VALUES of a number that its SPAN lets, whether there are FACTS of them or not)", () -> {
            x.fact(0, 0, 0, 1);
            summary("100:s");
            question("s:100;a0=0-0");
            due(x.covers(0), 0);
            x.fact(1, 0, 0, 1);
            due(x.covers(0), 0);
            question("s:100;a0=0-1");
            due(x.covers(0), 1);
            // By the shape, the values of a number need not stand together.
            shape("a7=0");
            summary("100:s");
            due(x.covers(0), 0);
            question("s:100;a1=0-0");
            due(x.covers(0), 1);
        });
    }

    private int leftOutBy(String summary, String question) {
        due(coversBy(summary, question), 1);
        return x.coverIs(0, 0);
    }

    private void leftOut() {
        said("LEFT OUT: SIDES of which some such number, with a VALUE that its SPAN lets, lies not in it.", () -> {
            for (int side = 0; side < 3; side++) {
                int bit = 1 << side;
                due(leftOutBy("000:s", "s:000" + span(side, 0, 0, 7)), 0);
                due(leftOutBy("000:s", "s:000" + span(side, 0, 1, 7)), bit);
                due(leftOutBy("000:s", "s:000" + span(side, 0, 0, 6)), bit);
                due(leftOutBy("000:s" + span(side, 0, 2, 3), "s:000" + span(side, 0, 2, 3)), 0);
                due(leftOutBy("000:s" + span(side, 0, 2, 3), "s:000" + span(side, 0, 3, 3)), bit);
                due(leftOutBy("222:s", "s:222" + span(side, 1, 4, 4)), bit);
                due(leftOutBy("222:s" + span(side, 1, 5, 5), "s:222" + span(side, 1, 4, 4)), 0);
            }
            due(leftOutBy("000:s", "s:000;a0=0-0;b0=0-7;c0=0-0"), 5);
            due(leftOutBy("000:s", "s:000;a0=0-0;b0=1-7;c0=0-0"), 7);
            due(leftOutBy("000:s", "s:222"), 0);
        });
    }

    private void rolledUp() {
        said("ROLLED UP: SIDES of which its LEVEL is finer.", () -> {
            for (int node = 0; node < 27; node++) {
                String levels = "" + node / 9 + node / 3 % 3 + node % 3;
                due(coversBy("000:s", "s:" + levels), 1);
                due(x.coverIs(0, 1), (node / 9 > 0 ? 1 : 0) + (node / 3 % 3 > 0 ? 2 : 0) + (node % 3 > 0 ? 4 : 0));
            }
            due(coversBy("111:s", "s:121"), 1);
            due(x.coverIs(0, 1), 2);
            due(coversBy("222:s", "s:222"), 1);
            due(x.coverIs(0, 1), 0);
        });
    }

    private void costs() {
        said("COST of a SUMMARY: its GROUPS and FACTS behind UPTO (FRESH).", () -> {
            summary("222:s");
            due(x.summaryIs(0, 6), 0);
            fiveFacts();
            due(x.summaryIs(0, 6), 5);
            summary("000:s;a0=0-1");
            due(x.summaryIs(1, 6), 2);
            // One that its spans do not let is fresh, too.
            x.fact(7, 7, 7, 1);
            due(x.summaryIs(1, 6), 3);
            due(x.summaryIs(0, 6), 6);
            x.renew(0);
            due(x.summaryIs(0, 6), 1);
        });
        said("Of the FACTS themselves: how many there are.", () -> {
            question("s:222;a1=4-4");
            due(x.way(1), 0);
            fiveFacts();
            due(x.way(0), -3);
            due(x.way(1), 5);
            draw(235);
            due(x.way(1), 240);
        });
    }

    private void ways() {
        said("THE WAY to answer: the SUMMARY that COVERS of the least COST (of like ones the lowest)", () -> {
            fiveFacts();
            summary("222:c");
            summary("000:s");
            summary("111:s");
            summary("012:s");
            summary("111:s");
            question("s:222");
            due(x.way(0), 2);
            due(x.way(1), 3);
            x.drop(2);
            due(x.way(0), 3);
            summary("121:s");
            due(x.way(0), 3);
            x.drop(3);
            due(x.way(0), 3);
            x.drop(3);
            due(x.way(0), 1);
            due(x.way(1), 4);
        });
        said("if that is no more than that of the FACTS; else the FACTS.", () -> {
            question("s:222");
            due(x.way(0), -3);
            summary("000:c");
            due(x.way(0), -3);
            due(x.way(1), 0);
            summary("000:s");
            due(x.way(0), 1);
            due(x.way(1), 0);
            fill(3);
            due(x.way(0), 1);
            due(x.way(1), 3);
            x.renew(1);
            due(x.way(0), 1);
            due(x.way(1), 3);
            question("d:222");
            due(x.way(0), -3);
            due(x.way(1), 3);
        });
    }

    private void bySummaries() {
        said("By a SUMMARY: its GROUPS that lie in the SPANS are put together by the QUESTION's triples, "
                + "FRESH FACTS that the SPANS let are added (as COMPENSATION).", () -> {
            fiveFacts();
            summary("000:scnx");
            x.fact(1, 0, 0, 99);
            x.fact(1, 7, 7, 77);
            x.fact(3, 0, 0, 0);
            String whats = "scnxv";
            int[][] values = {{169, 30}, {4, 2}, {10, 0}, {99, 30}, {42, 15}};
            for (int what = 0; what < 5; what++) {
                due(question(whats.charAt(what) + ":122;b0=0-6;c0=0-6"), 2);
                due(x.answerBy(0, 0, 0), 0);
                due(x.answerBy(0, 0, 3), values[what][0]);
                due(x.answerBy(0, 1, 0), 1);
                due(x.answerBy(0, 1, 3), values[what][1]);
                due(x.answerBy(0, 2, 3), -4);
            }
            due(x.coverIs(0, 2), 2);
            due(x.coverIs(0, 3), 3);
            // None of its groups, and none but fresh ones.
            due(question("s:222;b0=7-7;a0=1-1"), 1);
            due(x.coverIs(0, 3), 0);
            due(x.answerBy(0, 0, 3), 77);
            due(question("s:222;b0=6-6"), 0);
            due(x.answerBy(0, 0, 3), -4);
        });
    }

    private void nodes() {
        said("LATTICE: 27 nodes of LEVELS (9 times that of a, 3 times that of b, and that of c)", () -> {
            // Eight of a, four of them unlike at 1; three of b, two at 1; one of c.
            for (int a = 0; a < 8; a++) {
                x.fact(a, 0, 5, 1);
            }
            x.fact(0, 1, 5, 1);
            x.fact(0, 2, 5, 1);
            int[] groups = {10, 10, 10, 9, 9, 9, 8, 8, 8, 6, 6, 6, 5, 5, 5, 4, 4, 4, 3, 3, 3, 2, 2, 2, 1, 1, 1};
            dueAll(node -> x.node(node), groups);
            due(x.node(-1), -1);
            due(x.node(27), -1);
        });
        said("GROUPS of a node: of all FACTS.", () -> {
            dueAll(node -> x.node(node), new int[27]);
            fill(240);
            question("s:000;a0=0-0");
            summary("000:s;a0=0-0");
            due(x.node(0), 240);
            due(x.node(1), 30 * 4);
            due(x.node(2), 30);
            due(x.node(18), 64);
            due(x.node(26), 1);
            shape("c0=0;c1=0;c2=0;c3=0;c4=0;c5=0;c6=0;c7=0");
            due(x.node(1), 30);
            due(x.node(0), 240);
        });
        said("GROUPS of a node: of all FACTS.", () -> {
            // Each side has coarse ones of its own, and what is undone is not there.
            x.fact(7, 7, 7, 1);
            x.keep();
            x.fact(6, 6, 6, 1);
            due(x.node(17), 1);
            due(x.node(23), 1);
            due(x.node(25), 1);
            shape("a6=0");
            due(x.node(17), 2);
            due(x.node(23), 1);
            due(x.node(25), 1);
            shape("a6=3;b6=0");
            due(x.node(17), 1);
            due(x.node(23), 2);
            due(x.node(25), 1);
            shape("b6=3;c6=0");
            due(x.node(17), 1);
            due(x.node(23), 1);
            due(x.node(25), 2);
            x.undo();
            due(x.node(0), 1);
            due(x.node(25), 1);
            due(x.price(0), 27);
        });
        said("A node is BELOW another one if none of its LEVELS is finer.", () -> {
            for (int node = 0; node < 27; node++) {
                int of = node;
                for (int other = 0; other < 27; other += node % 3 + 1) {
                    boolean below = of / 9 >= other / 9 && of / 3 % 3 >= other / 3 % 3 && of % 3 >= other % 3;
                    due(x.below(node, other), below ? 1 : 0);
                }
            }
        });
    }

    private void threeFacts() {
        x.fact(0, 0, 0, 1);
        x.fact(0, 0, 1, 2);
        x.fact(0, 0, 1, 2);
    }

    private void prices() {
        said("PRICE of some nodes: the sum, over all 27, of the least GROUPS of a told node that each is BELOW (it may be itself), "
                + "or of how many FACTS there are, if that is less or there is none.", () -> {
            due(x.price(0), 0);
            due(x.price(134217727), 0);
            threeFacts();
            // Node 0 has two groups, and all are below it; node 1 one, and 18; node 26 one, and itself.
            due(x.price(0), 27 * 3);
            due(x.price(1), 27 * 2);
            due(x.price(2), 18 + 9 * 3);
            due(x.price(3), 18 + 9 * 2);
            due(x.price(1 << 26), 1 + 26 * 3);
            due(x.price(1 + (1 << 26)), 1 + 26 * 2);
            // Node 3 has two, and of the 18 below it 12 are below node 1, too.
            due(x.price(2 + 8), 18 + 6 * 2 + 3 * 3);
            due(x.price(134217727), 18 + 9 * 2);
        });
        said("or of how many FACTS there are, if that is less or there is none.", () -> {
            fill(5);
            due(x.price(0), 27 * 5);
            // No node has more groups than there are facts; as many make nothing cheaper.
            due(x.price(1), 27 * 5);
            x.fact(0, 0, 0, 1);
            due(x.price(0), 27 * 6);
            due(x.price(1), 27 * 5);
            draw(234);
            due(x.price(0), 27 * 240);
        });
    }

    private void greedyOnes() {
        said("GREEDY: one by one that node (not told yet) with which the PRICE is least", () -> {
            threeFacts();
            due(x.greedy(1, 10), 1);
            due(x.greedy(1, 0), 18 + 9 * 3);
            due(x.greedy(2, 10), 1);
            due(x.greedy(2, 11), 0);
            due(x.greedy(2, 0), 18 + 9 * 2);
            for (int i = 0; i < 6; i++) {
                for (int j = 0; j < i; j++) {
                    due(x.greedy(6, 10 + i) == x.greedy(6, 10 + j), false);
                }
            }
        });
        said("(of like ones the lowest; also if it makes nothing cheaper)", () -> {
            dueAll(i -> x.greedy(6, 10 + i), 0, 1, 2, 3, 4, 5);
            due(x.greedy(6, 0), 0);
            threeFacts();
            dueAll(i -> x.greedy(6, 10 + i), 1, 0, 2, 3, 4, 5);
            due(x.greedy(6, 0), 36);
            due(x.greedy(2, 0), 36);
            // One triple: nodes are like to one another, and 0 has all of them below it.
            fresh();
            x.fact(5, 5, 5, 1);
            x.fact(5, 5, 5, 1);
            dueAll(i -> x.greedy(6, 10 + i), 0, 1, 2, 3, 4, 5);
            due(x.greedy(1, 0), 27);
        });
    }

    private void bestOnes() {
        said("THE BEST one, two: the least PRICE of any one, two unlike ones, the first below the second", () -> {
            // Greedy takes node 7 first, which is not of the best two: 7 has 3 groups and 6 nodes below, 8 has 2 and 3,
            // 19 has 3 and 6.
            x.fact(2, 1, 3, 1);
            x.fact(0, 0, 0, 1);
            x.fact(2, 3, 2, 1);
            x.fact(0, 3, 3, 1);
            due(x.best(1, 1), 7);
            due(x.best(1, 0), 6 * 3 + 21 * 4);
            due(x.best(2, 1), 8);
            due(x.best(2, 2), 19);
            due(x.best(2, 0), 3 * 2 + 5 * 3 + 19 * 4);
            due(x.greedy(2, 10), 7);
            due(x.greedy(2, 0) > x.best(2, 0), true);
        });
        said("(of like ones the lowest first one, then the second one)", () -> {
            due(x.best(1, 1), 0);
            due(x.best(2, 1), 0);
            due(x.best(2, 2), 1);
            due(x.best(2, 0), 0);
            // One triple: any two with node 0 are like.
            x.fact(5, 5, 5, 1);
            x.fact(5, 5, 5, 1);
            due(x.best(2, 1), 0);
            due(x.best(2, 2), 1);
            due(x.best(2, 0), 27);
            fresh();
            threeFacts();
            due(x.best(2, 1), 0);
            due(x.best(2, 2), 1);
            due(x.best(2, 0), 36);
            fresh();
            fill(2);
            // Of (0,0,0), (0,0,1): 0 has two groups, as many as there are facts; 1 and 2 one each.
            due(x.best(1, 1), 1);
            due(x.best(2, 1), 0);
            due(x.best(2, 2), 1);
        });
    }

    private void drawnOnes() {
        said("A FACT is drawn: of a, b, c: X modulo 8 each, then X modulo 100 the MEASURE (X anew ahead of each; then it comes):", () -> {
            int seed = 1;
            for (int f = 0; f < 10; f++) {
                due(x.draws(1), 1);
                for (int what = 0; what < 4; what++) {
                    seed = nextX(seed);
                    due(x.factIs(f, what), seed % (what < 3 ? 8 : 100));
                }
                seed = nextX(seed);
                due(x.count(3), seed);
            }
            // The fifth X is its draw, whether it is taken or not.
            law("x(w<9)");
            for (int i = 0; i < 5; i++) {
                seed = nextX(seed);
            }
            due(x.draws(1), seed % 10 < 9 ? 0 : 1);
            due(x.count(3), seed);
        });
        said("X = (25173 X + 13849) modulo 65536 (X is THE SEED at first, 1).", () -> {
            due(x.count(3), 1);
            x.fact(0, 0, 0, 0);
            due(x.count(3), 39022);
            // The greatest and the least that X can be, and one whose product is 0 modulo 32768.
            int[][] seeds = {{65535, 54212}, {0, 13849}, {32768, 46617}, {39022, 61087}};
            for (int[] seed : seeds) {
                due(x.seed(seed[0]), true);
                x.fact(0, 0, 0, 0);
                due(x.count(3), seed[1]);
            }
        });
    }

    private void keptOnes() {
        said("KEPT: FACTS, SUMMARIES, X; UNDONE: as they were KEPT last, UPTO with them", () -> {
            fiveFacts();
            summary("000:s");
            summary("222:c;a0=0-0");
            x.fact(1, 1, 1, 1);
            int seed = x.count(3);
            due(x.keep(), 6);
            x.draws(60);
            x.renew(0);
            x.drop(1);
            summary("111:n");
            summary("111:n");
            due(x.undo(), true);
            due(x.count(0), 6);
            due(x.count(1), 2);
            due(x.count(3), seed);
            due(x.count(4), 106);
            due(x.summaryIs(0, 3), 1);
            due(x.summaryIs(0, 4), 5);
            due(x.summaryIs(0, 5), 4);
            due(x.summaryIs(0, 6), 5);
            due(x.summaryIs(1, 3), 2);
            due(x.summaryIs(1, 10), 1);
            due(x.group(1, 0, 4), 2);
            // Once more, and what comes behind is not what came before.
            x.fact(6, 6, 6, 66);
            due(x.factIs(6, 3), 66);
            x.renew(1);
            due(x.undo(), true);
            due(x.count(0), 6);
            due(x.summaryIs(1, 4), 5);
            // That which was kept last.
            x.fact(0, 0, 0, 3);
            x.drop(0);
            x.keep();
            x.fact(0, 0, 0, 4);
            x.drop(0);
            x.undo();
            due(x.count(0), 7);
            due(x.count(1), 1);
            due(x.summaryIs(0, 3), 2);
            due(x.factIs(6, 3), 3);
        });
    }

    private void undoneShapes() {
        said("(SHAPE, the QUESTION stay;", () -> {
            question("s:000");
            x.keep();
            question("c:122;a0=0-1");
            law("x(a=1)");
            shape("a0=3");
            x.feed(1, 2, 3, 4, 5);
            due(x.undo(), true);
            due(x.coarse(0, 0), 3);
            due(x.questionIs(3), 1);
            due(x.questionIs(0), 1);
            due(x.questionIs(10), 3);
            due(x.count(5), 1);
            due(x.count(2), 20);
        });
        said("is a SHAPE told since, also a like one: SUMMARIES none).", () -> {
            fiveFacts();
            summary("000:s");
            due(x.keep(), 5);
            shape("a0=9");
            due(x.undo(), true);
            due(x.count(1), 1);
            shape("a0=0");
            summary("000:s");
            summary("000:s");
            due(x.undo(), true);
            due(x.count(1), 0);
            summary("000:s");
            due(x.undo(), true);
            due(x.count(1), 0);
            due(x.count(0), 5);
            // A shape that was told ahead of the keeping does not matter.
            summary("111:s");
            x.keep();
            x.drop(0);
            due(x.undo(), true);
            due(x.count(1), 1);
            due(x.summaryIs(0, 0), 1);
        });
    }

    private void checkedOnes() {
        said("CHECK: MEASURES of FACTS from 0 on: right, or the first that is not so.", () -> {
            for (int measure = 1; measure <= 20; measure++) {
                x.fact(0, 0, 0, measure);
            }
            x.feed(0x01020304, 0x05060708, 0x090a0b0c, 0x0d0e0f10, 0x11121314);
            due(x.check(20), -1);
            x.feed(0x01020304, 0x05060708, 0x090a0b0c, 0x0d0e0f10, 0x11121315);
            due(x.check(20), 19);
            x.feed(0x01020304, 0x05060708, 0x090a0b0c, 0x0d0e0f10, 0x11121315);
            due(x.check(19), -1);
            x.feed(0x01020305, 0x05060709, 0x090a0b0c, 0x0d0e0f10, 0x11121314);
            due(x.check(20), 3);
            x.feed(0x00020304, 0x05060708, 0x090a0b0c, 0x0d0e0f10, 0x11121314);
            due(x.check(20), 0);
        });
    }

    private void ownMemory() {
        said("All memory is the clerk's own.", () -> {
            KeptSummaries first = x;
            fiveFacts();
            summary("000:s");
            question("s:222");
            law("x(a=1)");
            shape("a0=3");
            x.keep();
            x.seed(77);
            x.feed(1, 2, 3, 4, 5);
            fresh();
            dueAll(what -> x.count(what), 0, 0, 0, 1, 0, 0);
            due(x.coarse(0, 0), 0);
            due(x.questionIs(0), -2);
            due(x.undo(), false);
            due(x.fact(1, 0, 0, 9), 0);
            shape("b0=1");
            summary("222:c");
            question("d:000");
            x.keep();
            x = first;
            dueAll(what -> x.count(what), 5, 0, 20, 77, 105, 1);
            due(x.coarse(1, 0), 0);
            due(x.questionIs(3), 0);
        });
    }

    private void constants() {
        said("The constants: `NONE = -1`: There is none.", () -> due(KeptSummaries.NONE, -1));
    }
}
