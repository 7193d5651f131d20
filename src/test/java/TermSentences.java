/** The terms, up to the texts: facts, spans, summaries, questions, and how a fact comes. */
final class TermSentences extends Sentences {
    TermSentences(Document document) {
        super(document);
    }

    @Override
    void all() {
        part("An object is used", "## The public face");
        calls();
        part("FACTS, 0 on", "A SPAN of a SIDE:");
        facts();
        levels();
        part("A SPAN of a SIDE:", "A SUMMARY (8 at most");
        spans();
        part("A SUMMARY (8 at most", "A QUESTION: WHAT");
        summaries();
        summaryGroups();
        part("A QUESTION: WHAT", "A FACT comes");
        questions();
        middles();
        part("A FACT comes", "THE LAW: a TEXT");
        comings();
        askedAhead();
    }

    private void calls() {
        said("An object is used for at most 512 calls after it has been made", () -> {
            for (int call = 1; call <= 511; call++) {
                due(x.feed(call, 0, 0, 0, 0), call <= 13 ? 20 * call : -1);
            }
            due(x.count(2), 260);
        });
    }

    private void facts() {
        said("FACTS, 0 on (240 at most; none at first)", () -> {
            due(x.count(0), 0);
            due(x.factIs(0, 0), -1);
            for (int i = 0; i < 240; i++) {
                due(x.fact(i % 8, 0, 0, i % 100), i);
            }
            due(x.count(0), 240);
            due(x.fact(1, 1, 1, 1), -3);
            due(x.count(0), 240);
            due(x.factIs(239, 3), 39);
            due(x.factIs(240, 3), -1);
        });
        said("of SIDES a, b, c (0 to 2) a VALUE 0 to 7 each", () -> {
            due(x.fact(0, 7, 0, 1), 0);
            due(x.fact(7, 0, 7, 1), 1);
            dueAll(what -> x.factIs(0, what), 0, 7, 0);
            dueAll(what -> x.factIs(1, what), 7, 0, 7);
            for (int not : new int[] {-1, 8, Integer.MIN_VALUE, Integer.MAX_VALUE}) {
                due(x.fact(not, 0, 0, 1), -1);
                due(x.fact(0, not, 0, 1), -1);
                due(x.fact(0, 0, not, 1), -1);
            }
            due(x.count(0), 2);
        });
        said("and a MEASURE 0 to 99", () -> {
            due(x.fact(0, 0, 0, 0), 0);
            due(x.fact(0, 0, 0, 99), 1);
            due(x.factIs(0, 3), 0);
            due(x.factIs(1, 3), 99);
            for (int not : new int[] {-1, 100, Integer.MIN_VALUE, Integer.MAX_VALUE}) {
                due(x.fact(0, 0, 0, not), -1);
            }
            due(x.count(0), 2);
        });
    }

    private void eightOfEach() {
        for (int value = 0; value < 8; value++) {
            x.fact(value, value, value, value);
        }
    }

    private void levels() {
        said("LEVELS of a SIDE: 0 its VALUES", () -> {
            eightOfEach();
            summary("022:s");
            due(x.summaryIs(0, 5), 8);
            dueAll(i -> x.group(0, i, 0), 0, 1, 2, 3, 4, 5, 6, 7);
        });
        said("1 COARSE ones, 0 to 3 (of a VALUE as told; at first half of it, whole)", () -> {
            eightOfEach();
            for (int side = 0; side < 3; side++) {
                int of = side;
                dueAll(value -> x.coarse(of, value), 0, 0, 1, 1, 2, 2, 3, 3);
            }
            due(question("s:212"), 4);
            dueAll(i -> x.answer(i, 1), 0, 1, 2, 3);
            dueAll(i -> x.answer(i, 3), 1, 5, 9, 13);
            shape("b0=3;b7=0");
            dueAll(value -> x.coarse(1, value), 3, 0, 1, 1, 2, 2, 3, 0);
            dueAll(i -> x.answer(i, 3), 8, 5, 9, 6);
        });
        said("(of a VALUE as told; at first half of it, whole)", () -> {
            // Each side has coarse ones of its own: 7 is 0 in a, 1 in b, 2 in c.
            shape("a7=0;b7=1;c7=2");
            eightOfEach();
            String[] levels = {"122", "212", "221"};
            int[][] sums = {{8, 5, 9, 6}, {1, 12, 9, 6}, {1, 5, 16, 6}};
            for (int side = 0; side < 3; side++) {
                question("s:" + levels[side]);
                dueAll(i -> x.answer(i, 3), sums[side]);
                due(summary(levels[side] + ":s"), side);
                int of = side;
                dueAll(i -> x.group(of, i, 3), sums[side]);
                dueAll(i -> x.answerBy(of, i, 3), sums[side]);
            }
            summary("000:s");
            for (int side = 0; side < 3; side++) {
                question("s:" + levels[side]);
                dueAll(i -> x.answerBy(3, i, 3), sums[side]);
            }
        });
        said("2 all in one (0)", () -> {
            x.fact(7, 6, 5, 1);
            x.fact(1, 2, 3, 1);
            summary("222:c");
            due(x.summaryIs(0, 5), 1);
            dueAll(what -> x.group(0, 0, what), 0, 0, 0, -2, 2);
            shape("a7=3;b6=3;c5=3");
            due(question("c:222"), 1);
            dueAll(what -> x.answer(0, what), 0, 0, 0, 2);
        });
    }

    private void spans() {
        said("A SPAN of a SIDE: LEVEL 0 or 1 and from, to (both with, the first no greater)", () -> {
            due(question("s:222;a0=2-5;b0=3-3;c0=0-7"), 0);
            due(x.questionIs(10), 4 + 8 + 16 + 32);
            due(x.questionIs(11), 8);
            due(x.questionIs(12), 255);
            due(question("s:222;a1=1-2;b1=3-3;c1=0-3"), 0);
            due(x.questionIs(10), 4 + 8 + 16 + 32);
            due(x.questionIs(11), 64 + 128);
            due(x.questionIs(12), 255);
            due(question("s:222;a0=3-2"), -3011);
            due(summary("222:s;a0=3-2"), -3011);
            due(question("s:222;a2=0-0"), -3007);
        });
        said("it lets those VALUES whose number at that LEVEL, by the SHAPE when it is told, is within (there may be none)", () -> {
            x.fact(0, 0, 0, 1);
            shape("b0=3");
            due(question("c:222;b1=3-3"), 1);
            due(x.questionIs(11), 1 + 64 + 128);
            shape("b0=0");
            due(x.questionIs(11), 1 + 64 + 128);
            due(x.answer(0, 3), 1);
            summary("222:c;b1=3-3");
            due(x.summaryIs(0, 11), 64 + 128);
            due(question("c:222;b1=4-7"), 0);
            due(x.questionIs(11), 0);
            due(question("c:222;b0=1-7"), 0);
        });
        said("No SPAN: all 8.", () -> {
            eightOfEach();
            due(question("c:222;b0=0-0"), 1);
            dueAll(side -> x.questionIs(10 + side), 255, 1, 255);
            due(question("c:222"), 1);
            due(x.answer(0, 3), 8);
            due(x.questionIs(11), 255);
            summary("222:c;a0=0-0");
            dueAll(side -> x.summaryIs(0, 10 + side), 1, 255, 255);
            summary("222:c");
            dueAll(side -> x.summaryIs(1, 10 + side), 255, 255, 255);
            due(x.group(1, 0, 4), 8);
        });
    }

    private void summaries() {
        said("A SUMMARY (8 at most, 0 on)", () -> {
            due(x.count(1), 0);
            for (int i = 0; i < 8; i++) {
                due(summary("222:s"), i);
            }
            due(summary("222:c"), -3);
            due(x.count(1), 8);
            due(x.summaryIs(7, 3), 1);
            due(x.summaryIs(8, 3), -1);
            due(x.drop(7), true);
            due(summary("222:c"), 7);
            due(summary("222:c"), -3);
        });
        said("of each SIDE a LEVEL, and perhaps a SPAN", () -> {
            summary("012:s;b0=1-1");
            dueAll(what -> x.summaryIs(0, what), 0, 1, 2);
            dueAll(side -> x.summaryIs(0, 10 + side), 255, 2, 255);
            summary("210:s;c0=0-0;a0=7-7;b1=1-1");
            dueAll(what -> x.summaryIs(1, what), 2, 1, 0);
            dueAll(side -> x.summaryIs(1, 10 + side), 128, 12, 1);
        });
        said("PARTS that it keeps (s sum, c count, n least, x greatest MEASURE; one at least)", () -> {
            x.fact(0, 0, 0, 7);
            x.fact(0, 0, 0, 3);
            int[] values = {10, 2, 3, 7};
            for (int part = 0; part < 4; part++) {
                due(summary("222:" + "scnx".charAt(part)), part);
                due(x.summaryIs(part, 3), 1 << part);
                for (int asked = 0; asked < 4; asked++) {
                    due(x.group(part, 0, 3 + asked), asked == part ? values[part] : -2);
                }
            }
            due(summary("222:xncs"), 4);
            dueAll(part -> x.group(4, 0, 3 + part), values);
            due(summary("222:"), -1004);
            due(summary("222:;a0=0-7"), -1004);
        });
    }

    private void summaryGroups() {
        said("of how many FACTS, the first so many, it is made (UPTO)", () -> {
            summary("222:sc");
            due(x.summaryIs(0, 4), 0);
            due(x.summaryIs(0, 5), 0);
            x.fact(0, 0, 0, 4);
            summary("222:sc");
            x.fact(0, 0, 0, 5);
            due(x.summaryIs(0, 4), 0);
            due(x.group(0, 0, 3), -4);
            due(x.summaryIs(1, 4), 1);
            due(x.group(1, 0, 3), 4);
            draw(238);
            summary("222:sc");
            due(x.summaryIs(2, 4), 240);
            due(x.group(2, 0, 4), 240);
            due(x.group(1, 0, 4), 1);
        });
        said("Its GROUPS: the triples of numbers at its LEVELS of those FACTS that its SPANS let; with its PARTS of these each.", () -> {
            x.fact(0, 0, 0, 5);
            x.fact(1, 0, 0, 6);
            x.fact(2, 0, 0, 7);
            x.fact(3, 0, 0, 8);
            summary("100:scnx;a0=1-3");
            due(x.summaryIs(0, 5), 2);
            dueAll(what -> x.group(0, 0, what), 0, 0, 0, 6, 1, 6, 6);
            dueAll(what -> x.group(0, 1, what), 1, 0, 0, 15, 2, 7, 8);
            due(x.group(0, 2, 0), -4);
            summary("222:s;a0=0-3;b0=1-7");
            due(x.summaryIs(1, 5), 0);
            due(x.group(1, 0, 0), -4);
            summary("222:s;a1=4-4");
            due(x.summaryIs(2, 5), 0);
        });
    }

    private int answerOf(String text) {
        question(text);
        return x.answer(0, 3);
    }

    private void questions() {
        said("A QUESTION: WHAT (s, c, n, x; v average; d how many unlike MEASURES; m the middle one)", () -> {
            for (int measure : new int[] {9, 4, 4, 0, 9}) {
                x.fact(0, 0, 0, measure);
            }
            int[] values = {26, 5, 0, 9, 5, 3, 4};
            for (int what = 0; what < 7; what++) {
                due(answerOf("scnxvdm".charAt(what) + ":222"), values[what]);
            }
        });
        said("of each SIDE a LEVEL, perhaps a SPAN", () -> {
            question("s:021;c0=4-6");
            dueAll(what -> x.questionIs(what), 0, 2, 1);
            dueAll(side -> x.questionIs(10 + side), 255, 255, 112);
        });
        said("Its ANSWER: its GROUPS, by the triples of numbers at its LEVELS, rising by a, b, c, of all FACTS that its SPANS let: "
                + "WHAT of each", () -> {
            due(question("s:000;c0=0-1"), 0);
            due(x.answer(0, 3), -4);
            x.fact(1, 0, 0, 1);
            x.fact(0, 1, 0, 2);
            x.fact(0, 0, 1, 3);
            x.fact(0, 0, 0, 4);
            x.fact(0, 0, 2, 50);
            x.fact(1, 0, 0, 6);
            dueAll(i -> x.answer(i, 3), 4, 3, 2, 7, -4);
            due(question("s:012;c0=0-1"), 2);
            dueAll(i -> x.answer(i, 3), 9, 7, -4);
            due(question("s:222;a0=2-7"), 0);
        });
        said("v the sum through the count, rounded down", () -> {
            x.fact(0, 0, 0, 0);
            due(answerOf("v:222"), 0);
            x.fact(0, 0, 0, 1);
            due(answerOf("v:222"), 0);
            x.fact(0, 0, 0, 5);
            due(answerOf("v:222"), 2);
            summary("222:sc");
            x.fact(0, 0, 0, 5);
            due(answerOf("v:222"), 2);
            x.fact(0, 0, 0, 5);
            due(answerOf("v:222"), 3);
            due(x.answerBy(0, 0, 3), 3);
            x.fact(0, 0, 0, 99);
            due(answerOf("v:222"), 19);
            due(x.answerBy(0, 0, 3), 19);
        });
    }

    private void middles() {
        said("m the lesser of both in the middle, of an even number.", () -> {
            int[] measures = {8, 3, 5, 5, 9, 99, 0};
            int[] middles = {8, 3, 5, 5, 5, 5, 5};
            for (int i = 0; i < measures.length; i++) {
                x.fact(0, 0, 0, measures[i]);
                due(answerOf("m:222"), middles[i]);
            }
            x.fact(1, 0, 0, 99);
            x.fact(1, 0, 0, 0);
            due(question("m:022"), 2);
            due(x.answer(1, 3), 0);
            fresh();
            int[] falling = {5, 9, 8, 1, 0};
            int[] fallingMiddles = {5, 5, 8, 5, 5};
            for (int i = 0; i < falling.length; i++) {
                x.fact(i % 2, 0, 0, falling[i]);
                due(answerOf("m:222"), fallingMiddles[i]);
            }
            // Of a group only those that the span lets: 9, 1 of the five, then 5, 8, 0.
            due(answerOf("m:122;a0=1-1"), 1);
            due(answerOf("d:122;a0=1-1"), 2);
            due(answerOf("m:122;a0=0-0"), 5);
            due(answerOf("d:122;a0=0-0"), 3);
        });
        said("m the lesser of both in the middle, of an even number.", () -> {
            for (int i = 0; i < 240; i++) {
                x.fact(0, 0, 0, i % 2 == 0 ? 99 : 98);
            }
            due(answerOf("m:222"), 98);
            due(answerOf("d:222"), 2);
        });
        said("m the lesser of both in the middle, of an even number.", () -> {
            for (int i = 0; i < 240; i++) {
                x.fact(0, 0, 0, i < 119 ? 98 : 99);
            }
            due(answerOf("m:222"), 99);
        });
    }

    private void comings() {
        said("A FACT comes (told or drawn; are there 240 it does not, ahead of all that follows)", () -> {
            draw(239);
            summary("222:c");
            x.draws(1);
            law("u0(1=1);x(1=1)");
            int before = x.count(3);
            due(x.fact(0, 0, 0, 0), -3);
            due(x.draws(60), 0);
            law("u0(1=1)");
            due(x.fact(0, 0, 0, 0), -3);
            due(x.draws(1), 0);
            due(x.count(3), before);
            due(x.count(0), 240);
            due(x.summaryIs(0, 4), 239);
        });
        said("X anew, modulo 10, is its DRAW", () -> {
            law("mw(1=1)");
            for (int seed = 0; seed < 40; seed++) {
                x.seed(seed);
                x.fact(0, 0, 0, 50);
                due(x.count(3), nextX(seed));
                due(x.factIs(seed, 3), nextX(seed) % 10);
            }
        });
        said("by x of THE LAW it is not taken", () -> {
            law("m5(1=1);u0(1=1);x(a=1)");
            summary("222:c");
            due(x.fact(1, 0, 0, 9), -6);
            due(x.count(0), 0);
            due(x.count(4), 0);
            due(x.count(3), nextX(1));
            due(x.summaryIs(0, 4), 0);
            due(x.fact(2, 0, 0, 9), 0);
            law("x(1=1)");
            due(x.draws(60), 0);
            due(x.count(0), 1);
        });
        said("else its MEASURE becomes m, it is there, and then, by u, that SUMMARY is made anew, with it, too", () -> {
            law("m7(1=1);u1(1=1)");
            summary("222:sc");
            summary("222:sc");
            due(x.fact(0, 0, 0, 50), 0);
            due(x.factIs(0, 3), 7);
            due(x.count(4), 7);
            due(x.summaryIs(0, 4), 0);
            due(x.summaryIs(1, 4), 1);
            due(x.group(1, 0, 3), 7);
            due(x.group(1, 0, 4), 1);
            due(x.draws(1), 1);
            due(x.factIs(1, 3), 7);
            due(x.summaryIs(1, 4), 2);
        });
    }

    private void askedAhead() {
        said("(all asked ahead of that: of its MEASURE as told, of FACTS and SUMMARIES without it)", () -> {
            summary("222:s");
            summary("222:s");
            law("m1(n=0);m2(n=1);u0(m=50&n=0);u1(m=50&n=1&k=2)");
            x.fact(0, 0, 0, 50);
            due(x.factIs(0, 3), 1);
            due(x.summaryIs(0, 4), 1);
            due(x.summaryIs(1, 4), 0);
            x.fact(0, 0, 0, 50);
            due(x.factIs(1, 3), 2);
            due(x.summaryIs(0, 4), 1);
            due(x.summaryIs(1, 4), 2);
            x.fact(0, 0, 0, 50);
            due(x.factIs(2, 3), 50);
            due(x.summaryIs(1, 4), 2);
        });
    }
}
