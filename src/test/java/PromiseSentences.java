/** The promises of facts, texts and summaries: 1 to 15, and 29 to 33. */
final class PromiseSentences extends Sentences {
    private static final int[] FAR = {-1, -2, -3, 240, Integer.MIN_VALUE, Integer.MAX_VALUE};

    PromiseSentences(Document document) {
        super(document);
    }

    @Override
    void all() {
        promise(1);
        newObject();
        promise(2);
        fact();
        promise(3);
        draws();
        promise(4);
        feed();
        promise(5);
        lawOfTape();
        promise(6);
        shapeOfTape();
        promise(7);
        summaryOfTape();
        summaryOfAll();
        promise(8);
        questionOfTape();
        promise(9);
        renew();
        promise(10);
        drop();
        promise(11);
        coarse();
        promise(12);
        factIs();
        promise(13);
        summaryIs();
        promise(14);
        group();
        promise(15);
        questionIs();
        promise(29);
        seed();
        promise(30);
        keep();
        promise(31);
        undo();
        promise(32);
        check();
        promise(33);
        count();
    }

    private void newObject() {
        said("No FACTS, SUMMARIES, QUESTION;", () -> {
            dueAll(what -> x.count(what), 0, 0, 0);
            due(x.count(4), 0);
            due(x.count(5), 0);
            due(x.factIs(0, 0), -1);
            due(x.summaryIs(0, 0), -1);
            due(x.questionIs(0), -2);
            due(x.way(0), -2);
            due(x.undo(), false);
        });
        said("THE SEED 1.", () -> {
            due(x.count(3), 1);
            x.draws(1);
            dueAll(what -> x.factIs(0, what), 6, 7, 4, 5);
            due(x.count(3), 3882);
        });
    }

    private void fact() {
        said("A FACT comes: its number", () -> {
            due(x.fact(0, 0, 0, 0), 0);
            due(x.fact(7, 7, 7, 99), 1);
            due(x.draws(10), 10);
            due(x.fact(0, 0, 0, 0), 12);
            x.keep();
            x.fact(1, 1, 1, 1);
            x.undo();
            due(x.fact(2, 2, 2, 2), 13);
            due(x.factIs(13, 0), 2);
        });
        said("-3: there are 240", () -> {
            draw(239);
            due(x.fact(1, 2, 3, 4), 239);
            int before = x.count(3);
            due(x.fact(1, 2, 3, 4), -3);
            law("x(1=1)");
            due(x.fact(1, 2, 3, 4), -3);
            due(x.count(3), before);
            due(x.count(0), 240);
            due(x.factIs(239, 3), 4);
        });
        said("-6: it is not taken", () -> {
            law("x(m=99)");
            due(x.fact(0, 0, 0, 99), -6);
            due(x.count(0), 0);
            due(x.count(3), nextX(1));
            due(x.fact(0, 0, 0, 98), 0);
            draw(239);
            due(x.count(0) < 240, true);
            due(x.fact(0, 0, 0, 99), -6);
        });
        said("NONE: no such VALUES, MEASURE.", () -> {
            for (int not : new int[] {-1, 8, 100, Integer.MIN_VALUE, Integer.MAX_VALUE}) {
                due(x.fact(not, 0, 0, 0), -1);
                due(x.fact(0, not, 0, 0), -1);
                due(x.fact(0, 0, not, 0), -1);
            }
            due(x.fact(0, 0, 0, -1), -1);
            due(x.fact(0, 0, 0, 100), -1);
            due(x.count(0), 0);
            due(x.count(3), 1);
            law("x(1=1)");
            due(x.fact(8, 0, 0, 0), -1);
            due(x.count(3), 1);
            law("m1(1=1)");
            draw(240);
            due(x.fact(0, 0, 0, 100), -1);
        });
    }

    private void draws() {
        said("n FACTS (1 to 60; those not taken with them) are drawn", () -> {
            due(x.draws(1), 1);
            due(x.count(0), 1);
            due(x.draws(60), 60);
            due(x.count(0), 61);
            x.seed(1);
            law("x(1=1)");
            due(x.draws(2), 0);
            due(x.count(0), 61);
            int seed = 1;
            for (int i = 0; i < 10; i++) {
                seed = nextX(seed);
            }
            due(x.count(3), seed);
        });
        said("as long as there are fewer than 240", () -> {
            draw(180);
            x.draws(59);
            due(x.count(0), 239);
            int seed = x.count(3);
            for (int i = 0; i < 5; i++) {
                seed = nextX(seed);
            }
            due(x.draws(60), 1);
            due(x.count(3), seed);
            due(x.draws(60), 0);
            due(x.draws(1), 0);
            due(x.count(3), seed);
            due(x.count(0), 240);
        });
        said("how many were taken", () -> {
            law("x(a<4)");
            int taken = x.draws(60);
            due(x.count(0), taken);
            due(taken > 0 && taken < 60, true);
            for (int f = 0; f < taken; f++) {
                due(x.factIs(f, 0) >= 4, true);
            }
            law("m1(1=1)");
            due(x.draws(30), 30);
        });
        said("NONE: no such n.", () -> {
            due(x.draws(0), -1);
            due(x.draws(61), -1);
            for (int not : FAR) {
                due(x.draws(not), -1);
            }
            due(x.count(0), 0);
            due(x.count(3), 1);
            draw(240);
            due(x.draws(0), -1);
            due(x.draws(61), -1);
        });
    }

    private void feed() {
        said("Twenty bytes come behind the tape, the highest of each int first", () -> {
            for (int measure = 1; measure <= 40; measure++) {
                x.fact(0, 0, 0, measure);
            }
            x.feed(0x01020304, 0x05060708, 0x090a0b0c, 0x0d0e0f10, 0x11121314);
            x.feed(0x15161718, 0x191a1b1c, 0x1d1e1f20, 0x21222324, 0x25262728);
            due(x.check(40), -1);
            // The sign of an int is no matter: its highest byte is 128 or more.
            x.feed(0x01ff8000, -1, Integer.MIN_VALUE, 0, 0);
            due(x.check(20), 1);
            fresh();
            x.feed(-1, -1, -1, -1, -1);
            due(x.check(20), -1);
            x.feed(-1, Integer.MIN_VALUE, -1, -1, -1);
            due(x.check(20), 4);
            x.feed(-1, -1, -1, 0x7fffffff, -1);
            due(x.check(20), 12);
        });
        said("how many it has", () -> {
            for (int i = 1; i <= 13; i++) {
                due(x.feed(i, i, i, i, i), 20 * i);
                due(x.count(2), 20 * i);
            }
            x.check(0);
            due(x.feed(0, 0, 0, 0, 0), 20);
        });
        said("NONE if that would be more than 260.", () -> {
            feeds(12);
            due(x.feed(1, 1, 1, 1, 1), 260);
            due(x.feed(1, 1, 1, 1, 1), -1);
            due(x.feed(1, 1, 1, 1, 1), -1);
            due(x.count(2), 260);
            x.law(240);
            due(x.count(2), 0);
            due(x.feed(1, 1, 1, 1, 1), 20);
        });
    }

    private void lawOfTape() {
        said("THE LAW by the first n bytes of the tape (1 to 240; empty then)", () -> {
            tell("x(a=1);x(a=2);y");
            due(x.law(6), 1);
            due(x.count(2), 0);
            due(x.law(6), -1);
            due(x.fact(1, 0, 0, 0), -6);
            due(x.fact(2, 0, 0, 0), 0);
            tell("x(a=1);x(a=2);y");
            due(x.law(13), 2);
            due(x.fact(2, 0, 0, 0), -6);
            tell("x(a=1)");
            due(x.law(1), -1001);
            due(x.count(2), 0);
            feeds(13);
            due(x.law(240), -1000);
            due(x.count(2), 0);
        });
        said("in place of the one before", () -> {
            law("x(a=1);m9(1=1)");
            law("x(a=2)");
            due(x.count(5), 1);
            due(x.fact(1, 0, 0, 5), 0);
            due(x.factIs(0, 3), 5);
            due(x.fact(2, 0, 0, 5), -6);
            for (int a = 3; a < 7; a++) {
                due(law("x(a=" + a + ")"), 1);
                due(x.count(5), 1);
                due(x.fact(a, 0, 0, 5), -6);
                due(x.fact(a - 1, 0, 0, 5), a - 2);
            }
        });
        said("how many RULES", () -> {
            String text = "x(a=1)";
            for (int rules = 1; rules <= 16; rules++) {
                due(law(text), rules);
                due(x.count(5), rules);
                text += ";m1(a=1)";
            }
        });
        said("a FAULT: -1000 times its number, less its place (the one before stays)", () -> {
            law("x(a=1);x(a=1)");
            due(law("?"), -1000);
            due(law("x(a=2);m"), -1008);
            due(law("x(a=2);m123456(a=1)"), -2013);
            due(law("x(a=2)" + ";x(a=2)".repeat(16)), -4112);
            due(law("x(((((((a=1)"), -5007);
            tell("x(a=1" + "+1".repeat(117));
            due(x.law(239), -1239);
            due(x.count(2), 0);
            due(x.count(5), 2);
            due(x.fact(1, 0, 0, 5), -6);
            due(x.fact(2, 0, 0, 5), 0);
        });
        said("NONE: no such n, it has not so many (the tape stays).", () -> {
            due(x.law(1), -1);
            tell("x(a=1)");
            for (int not : new int[] {0, -1, 21, 240, 241, Integer.MIN_VALUE, Integer.MAX_VALUE}) {
                due(x.law(not), -1);
                due(x.count(2), 20);
            }
            due(x.count(5), 0);
            due(x.law(6), 1);
            feeds(13);
            due(x.law(241), -1);
            due(x.law(260), -1);
            due(x.law(0), -1);
            due(x.count(2), 260);
            due(x.count(5), 1);
        });
    }

    private void shapeOfTape() {
        said("A SHAPE by the first n bytes of the tape (1 to 60; empty then)", () -> {
            tell("a0=1;b0=2;!");
            due(x.shape(4), 1);
            due(x.count(2), 0);
            due(x.shape(4), -1);
            due(x.coarse(0, 0), 1);
            due(x.coarse(1, 0), 0);
            tell("a0=1;b0=2;!");
            due(x.shape(9), 2);
            due(x.coarse(1, 0), 2);
            tell("a0=1");
            due(x.shape(1), -1001);
            due(x.count(2), 0);
            feeds(4);
            due(x.shape(60), -1000);
            due(x.count(2), 0);
        });
        said("how many LINES", () -> {
            String text = "a0=0";
            for (int lines = 1; lines <= 12; lines++) {
                due(shape(text), lines);
                text += ";" + "abc".charAt(lines / 8) + lines % 8 + "=1";
            }
        });
        said("a FAULT: -1000 times its number, less its place (all stays)", () -> {
            fiveFacts();
            summary("111:s");
            question("s:111");
            x.keep();
            due(shape("b5=0;b0=4"), -1008);
            due(x.coarse(1, 5), 2);
            due(shape("c3=3;c3=3"), -6005);
            due(x.coarse(2, 3), 1);
            due(shape("?"), -1000);
            due(x.coarse(0, 0), 0);
            due(x.count(1), 1);
            due(x.count(2), 0);
            due(x.questionIs(0), 1);
            due(x.summaryIs(0, 4), 5);
            x.drop(0);
            due(x.undo(), true);
            due(x.count(1), 1);
            // What the faulty one told ahead of its fault does not come with the next one.
            due(shape("b6=1;a7=9"), -1008);
            due(shape("c0=1"), 1);
            due(x.coarse(1, 6), 3);
            due(x.coarse(1, 5), 2);
            due(x.coarse(2, 3), 1);
            due(x.coarse(2, 0), 1);
        });
        said("NONE: no such n, it has not so many (the tape stays).", () -> {
            due(x.shape(1), -1);
            summary("222:s");
            tell("a0=1");
            for (int not : new int[] {0, -1, 21, 60, 61, Integer.MIN_VALUE, Integer.MAX_VALUE}) {
                due(x.shape(not), -1);
                due(x.count(2), 20);
            }
            due(x.count(1), 1);
            due(x.shape(4), 1);
            feeds(13);
            due(x.shape(61), -1);
            due(x.shape(0), -1);
            due(x.count(2), 260);
        });
    }

    private void summaryOfTape() {
        said("A SUMMARY by the first n bytes of the tape (1 to 80; empty then)", () -> {
            tell("222:scnx;!");
            due(x.summary(5), 0);
            due(x.count(2), 0);
            due(x.summary(5), -1);
            due(x.summaryIs(0, 3), 1);
            tell("222:scnx;!");
            due(x.summary(8), 1);
            due(x.summaryIs(1, 3), 15);
            tell("222:s");
            due(x.summary(1), -1001);
            due(x.count(2), 0);
            feeds(4);
            due(x.summary(80), -1000);
            due(x.count(2), 0);
        });
        said("of all FACTS:", () -> {
            due(summary("222:c"), 0);
            due(x.summaryIs(0, 4), 0);
            fiveFacts();
            due(summary("222:c"), 1);
            due(x.summaryIs(1, 4), 5);
            due(x.group(1, 0, 4), 5);
            draw(235);
            due(summary("000:c;a1=4-4"), 2);
            due(x.summaryIs(2, 4), 240);
        });
        said("its number;", () -> {
            for (int i = 0; i < 4; i++) {
                due(summary("222:s"), i);
            }
            x.drop(1);
            due(summary("000:c"), 3);
            due(x.summaryIs(3, 3), 2);
            shape("a0=0");
            due(summary("222:s"), 0);
        });
        said("-3: there are 8 (asked behind FAULTS)", () -> {
            for (int i = 0; i < 8; i++) {
                summary("222:s");
            }
            due(summary("222:c"), -3);
            due(x.count(2), 0);
            due(x.count(1), 8);
            due(x.summaryIs(7, 3), 1);
            due(summary("222:"), -1004);
            due(summary("322:s"), -3000);
            due(summary("222:ss"), -6005);
            tell("222:c");
            due(x.summary(0), -1);
            due(x.summary(81), -1);
            due(x.count(2), 20);
        });
    }

    private void summaryOfAll() {
        said("a FAULT;", () -> {
            due(summary("?"), -1000);
            due(summary("222:s;a0=0-7;b0=0-7;c0=0-9"), -1025);
            due(summary("222:s;a0=0-7;b0=0-7;c0=7-6"), -3025);
            due(summary("222:s;a0=0-7;b0=0-7;b0=0-7"), -6020);
            due(x.count(1), 0);
            due(x.count(2), 0);
        });
        said("NONE: as above.", () -> {
            due(x.summary(1), -1);
            tell("222:s");
            for (int not : new int[] {0, -1, 21, 80, 81, Integer.MIN_VALUE, Integer.MAX_VALUE}) {
                due(x.summary(not), -1);
                due(x.count(2), 20);
            }
            due(x.count(1), 0);
            due(x.summary(5), 0);
            feeds(13);
            due(x.summary(81), -1);
            due(x.summary(0), -1);
            due(x.count(2), 260);
        });
    }

    private void questionOfTape() {
        said("A QUESTION by the first n bytes of the tape (1 to 80; empty then)", () -> {
            tell("s:222;a0=0-1!");
            due(x.question(5), 0);
            due(x.count(2), 0);
            due(x.question(5), -1);
            due(x.questionIs(10), 255);
            tell("s:222;a0=0-1!");
            due(x.question(12), 0);
            due(x.questionIs(10), 3);
            tell("s:222");
            due(x.question(1), -1001);
            due(x.count(2), 0);
            feeds(4);
            due(x.question(80), -1000);
            due(x.count(2), 0);
        });
        said("in place of the one ahead", () -> {
            question("s:012;a0=0-1");
            question("d:210;b0=3-3");
            due(x.questionIs(3), 5);
            dueAll(what -> x.questionIs(what), 2, 1, 0);
            dueAll(side -> x.questionIs(10 + side), 255, 8, 255);
        });
        said("how many GROUPS its ANSWER has", () -> {
            due(question("s:000"), 0);
            fill(240);
            due(question("s:000"), 240);
            due(question("d:000"), 240);
            due(question("m:222"), 1);
            due(question("v:221"), 4);
            due(question("c:022;a0=4-7"), 0);
            due(question("c:022;a0=3-7"), 1);
            due(question("n:222;a1=4-7"), 0);
        });
        said("a FAULT (the one ahead stays)", () -> {
            due(question("?"), -1000);
            due(x.questionIs(0), -2);
            question("v:122;c0=1-1");
            due(question("s:000;a0=0-7;b0=0-7;c0=0-9"), -1025);
            due(question("s:003"), -3004);
            due(question("s:000;a0=5-4"), -3011);
            due(question("s:000;a0=0-7;a0=0-7"), -6013);
            due(x.count(2), 0);
            due(x.questionIs(3), 4);
            dueAll(what -> x.questionIs(what), 1, 2, 2);
            dueAll(side -> x.questionIs(10 + side), 255, 255, 2);
        });
        said("NONE: as above.", () -> {
            due(x.question(1), -1);
            tell("s:222");
            for (int not : new int[] {0, -1, 21, 80, 81, Integer.MIN_VALUE, Integer.MAX_VALUE}) {
                due(x.question(not), -1);
                due(x.count(2), 20);
            }
            due(x.questionIs(0), -2);
            due(x.question(5), 0);
            feeds(13);
            due(x.question(81), -1);
            due(x.question(0), -1);
            due(x.count(2), 260);
        });
    }

    private void renew() {
        said("A SUMMARY is made anew of all FACTS: how many were FRESH", () -> {
            summary("222:sc");
            summary("222:sc");
            due(x.renew(0), 0);
            fiveFacts();
            due(x.renew(0), 5);
            due(x.renew(0), 0);
            due(x.summaryIs(0, 4), 5);
            due(x.summaryIs(0, 5), 1);
            due(x.group(0, 0, 3), 105);
            due(x.summaryIs(1, 4), 0);
            x.fact(0, 0, 0, 1);
            due(x.renew(0), 1);
            draw(234);
            due(x.renew(1), 240);
            due(x.group(1, 0, 4), 240);
            // Facts that its spans do not let are fresh, too.
            fresh();
            summary("222:s;a0=0-0");
            fiveFacts();
            due(x.renew(0), 5);
            due(x.group(0, 0, 3), 50);
        });
        said("NONE: no such one.", () -> {
            due(x.renew(0), -1);
            summary("222:s");
            due(x.renew(1), -1);
            for (int not : FAR) {
                due(x.renew(not), -1);
            }
            for (int i = 1; i < 8; i++) {
                summary("222:s");
            }
            due(x.renew(7), 0);
            due(x.renew(8), -1);
        });
    }

    private void drop() {
        said("A SUMMARY is dropped (those behind it move up): true", () -> {
            String[] levels = {"000:s", "001:c", "002:n", "010:x", "011:s", "012:c", "020:n", "021:x"};
            for (String level : levels) {
                summary(level);
                x.fact(0, 0, 0, 1);
            }
            due(x.drop(7), true);
            due(x.drop(0), true);
            due(x.drop(2), true);
            due(x.count(1), 5);
            // Left are 1, 2, 4, 5, 6.
            dueAll(i -> x.summaryIs(i, 2), 1, 2, 1, 2, 0, -1);
            dueAll(i -> x.summaryIs(i, 3), 2, 4, 1, 2, 4, -1);
            dueAll(i -> x.summaryIs(i, 4), 1, 2, 4, 5, 6, -1);
            due(summary("222:x"), 5);
            due(x.summaryIs(4, 4), 6);
            due(x.summaryIs(5, 4), 8);
            for (int i = 0; i < 6; i++) {
                due(x.drop(0), true);
            }
            due(x.count(1), 0);
        });
        said("false: no such one.", () -> {
            due(x.drop(0), false);
            summary("222:s");
            due(x.drop(1), false);
            for (int not : FAR) {
                due(x.drop(not), false);
            }
            due(x.count(1), 1);
            for (int i = 1; i < 8; i++) {
                summary("222:s");
            }
            due(x.drop(8), false);
            due(x.count(1), 8);
        });
    }

    private void coarse() {
        said("The COARSE one of a VALUE of a SIDE (0 to 2)", () -> {
            shape("a0=3;b3=0;c7=1");
            dueAll(value -> x.coarse(0, value), 3, 0, 1, 1, 2, 2, 3, 3);
            dueAll(value -> x.coarse(1, value), 0, 0, 1, 0, 2, 2, 3, 3);
            dueAll(value -> x.coarse(2, value), 0, 0, 1, 1, 2, 2, 3, 1);
        });
        said("NONE: no such ones.", () -> {
            due(x.coarse(-1, 0), -1);
            due(x.coarse(3, 0), -1);
            due(x.coarse(0, -1), -1);
            due(x.coarse(0, 8), -1);
            due(x.coarse(2, 8), -1);
            for (int not : FAR) {
                due(x.coarse(not, 0), -1);
                due(x.coarse(0, not), -1);
            }
        });
    }

    private void factIs() {
        said("A FACT, what 0 to 2 its VALUES, 3 its MEASURE", () -> {
            x.fact(1, 2, 3, 44);
            x.fact(7, 0, 5, 0);
            dueAll(what -> x.factIs(0, what), 1, 2, 3, 44);
            dueAll(what -> x.factIs(1, what), 7, 0, 5, 0);
            draw(237);
            x.fact(6, 5, 4, 99);
            dueAll(what -> x.factIs(239, what), 6, 5, 4, 99);
            dueAll(what -> x.factIs(0, what), 1, 2, 3, 44);
        });
        said("NONE: no such ones.", () -> {
            due(x.factIs(0, 0), -1);
            x.fact(1, 2, 3, 44);
            due(x.factIs(0, -1), -1);
            due(x.factIs(0, 4), -1);
            due(x.factIs(1, 0), -1);
            for (int not : FAR) {
                due(x.factIs(not, 0), -1);
                due(x.factIs(0, not), -1);
            }
            // What was undone is not there.
            x.keep();
            x.fact(1, 2, 3, 44);
            x.undo();
            due(x.factIs(1, 0), -1);
        });
    }

    private void summaryIs() {
        said("A SUMMARY, what 0 to 2 LEVELS, 3 PARTS (bits: s 1, c 2, n 4, x 8), 4 UPTO, 5 GROUPS, 6 COST, "
                + "10 + side VALUES its SPAN lets (bits)", () -> {
            fiveFacts();
            summary("120:cx;b1=0-1;c0=1-7");
            x.fact(2, 2, 2, 2);
            dueAll(what -> x.summaryIs(0, what), 1, 2, 0, 10, 5, 1, 2, -1, -1, -1, 255, 15, 254, -1);
            for (int bits = 1; bits < 16; bits++) {
                fresh();
                StringBuilder parts = new StringBuilder("222:");
                for (int part = 0; part < 4; part++) {
                    parts.append((bits >> part & 1) != 0 ? "scnx".substring(part, part + 1) : "");
                }
                summary(parts.toString());
                dueAll(what -> x.summaryIs(0, what), 2, 2, 2, bits, 0, 0, 0);
            }
        });
        said("NONE: no such ones.", () -> {
            due(x.summaryIs(0, 0), -1);
            summary("222:s");
            due(x.summaryIs(1, 0), -1);
            for (int not : new int[] {-1, 7, 8, 9, 13, Integer.MIN_VALUE, Integer.MAX_VALUE}) {
                due(x.summaryIs(0, not), -1);
            }
            for (int not : FAR) {
                due(x.summaryIs(not, 0), -1);
            }
        });
    }

    private void group() {
        said("GROUP i of a SUMMARY, rising by a, b, c, what 0 to 2 the numbers, 3 sum, 4 count, 5 least, 6 greatest", () -> {
            int[][] triples = {{7, 7, 7}, {7, 0, 0}, {0, 7, 1}, {0, 7, 0}, {0, 0, 7}, {0, 0, 0}};
            for (int[] triple : triples) {
                x.fact(triple[0], triple[1], triple[2], 9);
            }
            x.fact(0, 0, 7, 3);
            summary("000:scnx");
            for (int i = 0; i < 6; i++) {
                int[] triple = triples[5 - i];
                int of = i;
                dueAll(what -> x.group(0, of, what), triple);
            }
            dueAll(what -> x.group(0, 1, what), 0, 0, 7, 12, 2, 3, 9);
            dueAll(what -> x.group(0, 5, what), 7, 7, 7, 9, 1, 9, 9);
            summary("121:sx");
            dueAll(i -> x.group(1, i, 2), 0, 3, 0, 3, -4);
            dueAll(i -> x.group(1, i, 0), 0, 0, 3, 3, -4);
        });
        said("(it does not keep that: -2)", () -> {
            fiveFacts();
            for (int kept = 0; kept < 4; kept++) {
                summary("222:" + "scnx".charAt(kept));
                for (int part = 0; part < 4; part++) {
                    due(x.group(kept, 0, 3 + part) == -2, part != kept);
                }
            }
        });
        said("-4: there are not so many", () -> {
            summary("000:s");
            due(x.group(0, 0, 0), -4);
            fiveFacts();
            due(x.group(0, 0, 0), -4);
            x.renew(0);
            due(x.group(0, 3, 0), 7);
            due(x.group(0, 4, 0), -4);
            due(x.group(0, 4, 3), -4);
            due(x.group(0, 512, 0), -4);
            due(x.group(0, Integer.MAX_VALUE, 3), -4);
        });
        said("NONE: no such ones.", () -> {
            due(x.group(0, 0, 0), -1);
            fiveFacts();
            summary("222:s");
            due(x.group(1, 0, 0), -1);
            due(x.group(0, 0, -1), -1);
            due(x.group(0, 0, 7), -1);
            due(x.group(0, 9, 7), -1);
            due(x.group(0, -1, 0), -1);
            for (int not : FAR) {
                due(x.group(not, 0, 0), -1);
                due(x.group(0, 0, not), -1);
            }
        });
    }

    private void questionIs() {
        said("THE QUESTION, what 0 to 2 LEVELS, 3 WHAT (0 s, 1 c, 2 n, 3 x, 4 v, 5 d, 6 m), 10 + side VALUES its SPAN lets (bits)", () -> {
            for (int what = 0; what < 7; what++) {
                question("scnxvdm".charAt(what) + ":012;c1=1-2;a0=7-7");
                dueAll(asked -> x.questionIs(asked), 0, 1, 2, what, -1, -1, -1, -1, -1, -1, 128, 255, 60, -1);
            }
        });
        said("none yet: -2", () -> {
            for (int what = 0; what < 14; what++) {
                due(x.questionIs(what), what < 4 || what > 9 && what < 13 ? -2 : -1);
            }
            question("?");
            due(x.questionIs(0), -2);
            question("s:000;a1=4-4");
            due(x.questionIs(0), 0);
            due(x.questionIs(10), 0);
        });
        said("NONE: no such what.", () -> {
            int[] nots = {-1, 4, 5, 9, 13, Integer.MIN_VALUE, Integer.MAX_VALUE};
            for (int not : nots) {
                due(x.questionIs(not), -1);
            }
            question("s:000");
            for (int not : nots) {
                due(x.questionIs(not), -1);
            }
        });
    }

    private void seed() {
        said("THE SEED (0 to 65535; X, too): true", () -> {
            for (int seed : new int[] {0, 65535, 1, 32768}) {
                due(x.seed(seed), true);
                due(x.count(3), seed);
                x.fact(0, 0, 0, 0);
                due(x.count(3), nextX(seed));
            }
        });
        said("false: no such number.", () -> {
            x.seed(7);
            for (int not : new int[] {-1, 65536, Integer.MIN_VALUE, Integer.MAX_VALUE}) {
                due(x.seed(not), false);
                due(x.count(3), 7);
            }
        });
    }

    private void keep() {
        said("KEPT: how many FACTS.", () -> {
            due(x.keep(), 0);
            due(x.undo(), true);
            fiveFacts();
            due(x.keep(), 5);
            due(x.keep(), 5);
            draw(235);
            due(x.keep(), 240);
            due(x.undo(), true);
            due(x.count(0), 240);
        });
    }

    private void undo() {
        said("UNDONE: true", () -> {
            x.keep();
            due(x.undo(), true);
            due(x.undo(), true);
            x.seed(9);
            fiveFacts();
            summary("222:s");
            due(x.undo(), true);
            dueAll(what -> x.count(what), 0, 0, 0, 1, 0);
            draw(240);
            due(x.undo(), true);
            due(x.count(0), 0);
            due(x.fact(0, 0, 0, 1), 0);
        });
        said("false: none was KEPT.", () -> {
            due(x.undo(), false);
            fiveFacts();
            summary("222:s");
            due(x.undo(), false);
            dueAll(what -> x.count(what), 5, 1, 0, 3882, 105);
        });
    }

    private void check() {
        said("CHECK by the first n bytes of the tape (0 to 240; empty then; FACTS that are not there 255)", () -> {
            due(x.check(0), -1);
            x.fact(0, 0, 0, 99);
            tell("c" + "\u00ff".repeat(239));
            due(x.check(240), -1);
            due(x.count(2), 0);
            tell("c" + "\u00ff".repeat(238) + "\u0000");
            due(x.check(240), 239);
            due(x.count(2), 0);
            tell("c" + "\u00ff".repeat(238) + "\u0000");
            due(x.check(239), -1);
            due(x.count(2), 0);
            tell("x");
            due(x.check(0), -1);
            due(x.count(2), 0);
        });
        said("NONE: right;", () -> {
            x.fact(0, 0, 0, 0);
            x.fact(0, 0, 0, 99);
            // All of those that there are, or the first of them.
            tell("\u0000c");
            due(x.check(2), -1);
            tell("\u0000?");
            due(x.check(1), -1);
            tell("\u0000c\u00ff");
            due(x.check(3), -1);
        });
        said("else the first that is not so;", () -> {
            x.fact(0, 0, 0, 0);
            x.fact(0, 0, 0, 99);
            tell("\u0001b");
            due(x.check(2), 0);
            due(x.count(2), 0);
            tell("\u0000b\u0000");
            due(x.check(3), 1);
            tell("\u0000c\u00fe\u00ff\u0000");
            due(x.check(5), 2);
            tell("\u00ff");
            due(x.check(1), 0);
        });
        said("-2: no such n, it has not so many (the tape stays).", () -> {
            due(x.check(1), -2);
            due(x.check(-1), -2);
            tell("\u00ff");
            for (int not : new int[] {-1, 21, 240, 241, Integer.MIN_VALUE, Integer.MAX_VALUE}) {
                due(x.check(not), -2);
                due(x.count(2), 20);
            }
            feeds(12);
            due(x.check(241), -2);
            due(x.check(260), -2);
            due(x.count(2), 260);
            due(x.check(240), 1);
        });
    }

    private void count() {
        said("0 FACTS, 1 SUMMARIES, 2 bytes of the tape, 3 X, 4 MEASURES of all added up, 5 RULES.", () -> {
            dueAll(what -> x.count(what), 0, 0, 0, 1, 0, 0);
            fiveFacts();
            summary("000:s");
            law("x(a=1);x(a=2)");
            x.feed(0, 0, 0, 0, 0);
            dueAll(what -> x.count(what), 5, 1, 20, 3882, 105, 2);
            fresh();
            law("m99(1=1)");
            draw(240);
            for (int i = 0; i < 8; i++) {
                summary("222:s");
            }
            feeds(13);
            due(x.count(0), 240);
            due(x.count(1), 8);
            due(x.count(2), 260);
            due(x.count(4), 240 * 99);
        });
        said("NONE for others.", () -> {
            fiveFacts();
            due(x.count(6), -1);
            for (int not : FAR) {
                due(x.count(not), -1);
            }
        });
    }
}
