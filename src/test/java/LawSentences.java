/** The law: its text, what its rules do, how they are reckoned, and its faults. */
final class LawSentences extends Sentences {
    private static final String FACTORS = "0123456789[abcmnkw";

    LawSentences(Document document) {
        super(document);
    }

    @Override
    void all() {
        part("THE LAW: a TEXT", "C: PARTS with");
        texts();
        heads();
        chosenRules();
        part("C: PARTS with", "All is reckoned");
        conditions();
        sums();
        letters();
        part("All is reckoned", "FAULTS, the first from the left");
        reckoning();
        refusals();
        part("FAULTS, the first from the left", "A SHAPE: a TEXT");
        wrongSigns();
        limits();
        depths();
    }

    /** Of the fact (2, 3, 5) 50, the first there is, by a law of one rule. */
    private int measureBy(String sum) {
        fresh();
        due(law("m" + sum + "(1=1)"), 1);
        x.fact(2, 3, 5, 50);
        return x.factIs(0, 3);
    }

    private boolean holds(String condition) {
        return holds(condition, 2, 3, 5);
    }

    private boolean holds(String condition, int a, int b, int c) {
        fresh();
        due(law("x(" + condition + ")"), 1);
        return x.fact(a, b, c, 50) == -6;
    }

    private static String rules(int n) {
        return "x(a=1)" + ";x(a=1)".repeat(n - 1);
    }

    private void texts() {
        said("THE LAW: a TEXT of at most 240 bytes, no blanks (none at first)", () -> {
            due(x.count(5), 0);
            due(x.fact(1, 2, 3, 44), 0);
            due(x.factIs(0, 3), 44);
            String longest = "x(a=1" + "+1-1".repeat(58) + "+1)";
            due(longest.length(), 240);
            due(law(longest), 1);
            due(x.fact(2, 0, 0, 1), -6);
            due(x.fact(1, 0, 0, 1), 1);
            tell(rules(16) + "a".repeat(149));
            due(x.law(241), -1);
            due(x.count(2), 260);
            due(x.law(240), -1111);
            due(law(" x(a=1)"), -1000);
            due(law("x (a=1)"), -1001);
            due(law("x(a= 1)"), -1004);
            due(law("x(a=1) "), -1006);
            due(law("x(a=1); x(a=1)"), -1007);
        });
        said("RULES (16 at most) with a ; (59) between two", () -> {
            due(law(rules(1)), 1);
            due(law(rules(2)), 2);
            due(law(rules(16)), 16);
            due(x.count(5), 16);
            due(law(rules(17)), -4112);
            due(law("x(a=1)x(a=2)"), -1006);
            due(law("x(a=1):x(a=2)"), -1006);
            due(law("x(a=1);;x(a=2)"), -1007);
            due(law(";x(a=1)"), -1000);
            due(law("x(a=1);"), -1007);
            due(x.count(5), 16);
            // The last of sixteen is a rule like the others.
            law(rules(15) + ";x(a=7)");
            due(x.fact(7, 0, 0, 0), -6);
            due(x.fact(6, 0, 0, 0), 0);
        });
        said("a letter, E, and (C), of x only (C)", () -> {
            due(law("m1(a=1)"), 1);
            due(law("u1(a=1)"), 1);
            due(law("x(a=1)"), 1);
            due(law("x1(a=1)"), -1001);
            due(law("m(a=1)"), -1001);
            due(law("u(a=1)"), -1001);
            due(law("m1"), -1002);
            due(law("m1a=1"), -1002);
            due(law("xa=1"), -1001);
            due(law("x[a=1]"), -1001);
            due(law("x()"), -1002);
        });
    }

    private void heads() {
        said("m a FACT's MEASURE (0 to 99; none: as told)", () -> {
            law("m0(a=1);m99(a=2);m1(a=3);m98(a=4)");
            int[] measures = {50, 0, 99, 1, 98, 50};
            for (int a = 0; a < measures.length; a++) {
                due(x.fact(a, 0, 0, 50), a);
                due(x.factIs(a, 3), measures[a]);
            }
        });
        said("u a SUMMARY (none, no such one: none)", () -> {
            summary("222:s");
            summary("222:s");
            law("ua-1(b=0);u99999*99999(b=1);u0-99999(b=2)");
            int[][] uptos = {{0, 0}, {2, 0}, {2, 3}, {2, 3}, {2, 3}};
            for (int a = 0; a < uptos.length; a++) {
                due(x.fact(a, 0, 0, 1), a);
                due(x.summaryIs(0, 4), uptos[a][0]);
                due(x.summaryIs(1, 4), uptos[a][1]);
            }
            for (int b = 1; b < 4; b++) {
                x.fact(1, b, 0, 1);
                due(x.summaryIs(0, 4), 2);
                due(x.summaryIs(1, 4), 3);
            }
            x.drop(1);
            x.fact(2, 0, 0, 1);
            due(x.summaryIs(0, 4), 2);
        });
        said("u a SUMMARY (none, no such one: none)", () -> {
            for (int i = 0; i < 8; i++) {
                summary("222:s");
            }
            law("ua+1(1=1)");
            x.fact(6, 0, 0, 1);
            due(x.summaryIs(7, 4), 1);
            x.fact(7, 0, 0, 1);
            for (int i = 0; i < 8; i++) {
                due(x.summaryIs(i, 4), i == 7 ? 1 : 0);
            }
        });
        said("x it is not taken (any will do; without an x in THE LAW each is)", () -> {
            law("x(a=1);m1(1=1);x(a=2);x(a=1)");
            due(x.fact(1, 0, 0, 9), -6);
            due(x.fact(2, 0, 0, 9), -6);
            due(x.fact(3, 0, 0, 9), 0);
            law("m1(1=1);u0(1=1)");
            due(x.fact(1, 0, 0, 9), 1);
            due(x.draws(60), 60);
        });
    }

    private void chosenRules() {
        said("of the first RULE of m, u whose C holds the E", () -> {
            summary("222:s");
            summary("222:s");
            law("u1(a=1);m1(a=1);m2(a<2);u0(a<2);m3(1=1)");
            x.fact(1, 0, 0, 50);
            due(x.factIs(0, 3), 1);
            due(x.summaryIs(0, 4), 0);
            due(x.summaryIs(1, 4), 1);
            x.fact(0, 0, 0, 50);
            due(x.factIs(1, 3), 2);
            due(x.summaryIs(0, 4), 2);
            due(x.summaryIs(1, 4), 1);
            x.fact(5, 0, 0, 50);
            due(x.factIs(2, 3), 3);
            due(x.summaryIs(0, 4), 2);
        });
        said("(of m beyond its bounds the bound)", () -> {
            due(measureBy("99"), 99);
            due(measureBy("100"), 99);
            due(measureBy("99999"), 99);
            due(measureBy("65536*32767+65535"), 99);
            due(measureBy("0"), 0);
            due(measureBy("0-1"), 0);
            due(measureBy("0-99999"), 0);
            due(measureBy("65536*32768"), 0);
        });
    }

    private void conditions() {
        said("C: PARTS with a | between two, one of which must hold", () -> {
            for (int bits = 0; bits < 8; bits++) {
                due(holds("a=1|b=1|c=1", bits & 1, bits >> 1 & 1, bits >> 2), bits != 0);
            }
            onlyFaultAt("x(a=1||b=1)", 6);
            onlyFaultAt("x(|a=1)", 2);
            onlyFaultAt("x(a=1|)", 6);
        });
        said("a PART: TESTS with an & between two, all of which must", () -> {
            for (int bits = 0; bits < 8; bits++) {
                int a = bits & 1;
                int b = bits >> 1 & 1;
                int c = bits >> 2;
                due(holds("a=1&b=1&c=1", a, b, c), bits == 7);
                due(holds("a=1|b=1&c=1", a, b, c), a == 1 || b == 1 && c == 1);
                due(holds("a=1&b=1|c=1", a, b, c), a == 1 && b == 1 || c == 1);
            }
            onlyFaultAt("x(a=1&&b=1)", 6);
            onlyFaultAt("x(&a=1)", 2);
            onlyFaultAt("x(a=1&)", 6);
        });
        said("a TEST: !TEST, (C), or E, one of < > =, and E.", () -> {
            for (int a = 1; a <= 3; a++) {
                due(holds("a<2", a, 0, 0), a == 1);
                due(holds("a=2", a, 0, 0), a == 2);
                due(holds("a>2", a, 0, 0), a == 3);
                due(holds("!a=2", a, 0, 0), a != 2);
                due(holds("!!a=2", a, 0, 0), a == 2);
                due(holds("!!!a=2", a, 0, 0), a != 2);
                due(holds("!a=2&a<3", a, 0, 0), a == 1);
                due(holds("!a=2|a<3", a, 0, 0), true);
                due(holds("!(a=2|a=3)", a, 0, 0), a == 1);
                due(holds("(a=1|a=2)&!a=1", a, 0, 0), a == 2);
                due(holds("((a=1))|(a=2)", a, 0, 0), a < 3);
            }
            onlyFaultAt("x(a)", 3);
            onlyFaultAt("x(a<=3)", 4);
            onlyFaultAt("x(a=1=1)", 5);
            onlyFaultAt("x(!)", 3);
            onlyFaultAt("x(())", 3);
            onlyFaultAt("x((a)=1)", 4);
            onlyFaultAt("x(1!=2)", 3);
        });
    }

    private void onlyFaultAt(String text, int place) {
        fresh();
        due(law(text), -1000 - place);
    }

    private void sums() {
        said("E: TERMS with + or - between two; a TERM: FACTORS with one of * / % between two; from the left on", () -> {
            due(measureBy("20-5-3"), 12);
            due(measureBy("20-5+3"), 18);
            due(measureBy("40/3/2"), 6);
            due(measureBy("40/3*3"), 39);
            due(measureBy("17%10*3"), 21);
            due(measureBy("3*17%10"), 1);
            due(measureBy("2+3*4"), 14);
            due(measureBy("2*3+4"), 10);
            due(measureBy("50-20/3*2"), 38);
            due(measureBy("50-20%7-1"), 43);
            onlyFaultAt("m1++1(a=1)", 3);
            onlyFaultAt("m-1(a=1)", 1);
            onlyFaultAt("m1-(a=1)", 3);
            onlyFaultAt("m1*/2(a=1)", 3);
            onlyFaultAt("m1^2(a=1)", 2);
        });
        said("a FACTOR: [E], a number of one to five digits, or a letter", () -> {
            due(measureBy("[7]"), 7);
            due(measureBy("[1+2]*3"), 9);
            due(measureBy("60/[2*[1+2]]"), 10);
            due(measureBy("7"), 7);
            due(measureBy("00042"), 42);
            due(measureBy("99999/1010"), 99);
            due(measureBy("99999/1011"), 98);
            onlyFaultAt("m[](a=1)", 2);
            onlyFaultAt("m[1(a=1)", 3);
            onlyFaultAt("m1](a=1)", 2);
            onlyFaultAt("m12a(a=1)", 3);
            onlyFaultAt("mab(a=1)", 2);
            onlyFaultAt("md(a=1)", 1);
        });
    }

    private void letters() {
        said("a, b, c the FACT's VALUES, m its MEASURE,", () -> {
            law("ma*10+b(c=0);mc*10+a(b=7);mm-1(b=6)");
            x.fact(7, 5, 0, 1);
            due(x.factIs(0, 3), 75);
            x.fact(4, 7, 7, 1);
            due(x.factIs(1, 3), 74);
            x.fact(4, 6, 7, 99);
            due(x.factIs(2, 3), 98);
            x.fact(4, 6, 7, 1);
            due(x.factIs(3, 3), 0);
        });
        said("n FACTS there are modulo 100,", () -> {
            law("mn(1=1)");
            x.fact(0, 0, 0, 50);
            due(x.factIs(0, 3), 0);
            draw(98);
            for (int f = 99; f < 102; f++) {
                due(x.fact(0, 0, 0, 50), f);
                due(x.factIs(f, 3), f % 100);
            }
            draw(97);
            for (int f = 199; f < 202; f++) {
                due(x.fact(0, 0, 0, 50), f);
                due(x.factIs(f, 3), f % 100);
            }
            draw(38);
            due(x.factIs(239, 3), 39);
        });
        said("k SUMMARIES,", () -> {
            law("mk(1=1)");
            for (int k = 0; k <= 8; k++) {
                x.fact(0, 0, 0, 50);
                due(x.factIs(k, 3), k);
                summary("222:s");
            }
            x.drop(3);
            x.fact(0, 0, 0, 50);
            due(x.factIs(9, 3), 7);
        });
        said("w the DRAW.", () -> {
            law("x(w=2);x(w>6)");
            for (int seed = 0; seed < 30; seed++) {
                x.seed(seed);
                int draw = nextX(seed) % 10;
                due(x.fact(0, 0, 0, 50) == -6, draw == 2 || draw > 6);
            }
        });
    }

    private void reckoning() {
        said("All is reckoned with 32 bits, as the machine does", () -> {
            due(measureBy("65536*65536+7"), 7);
            due(measureBy("65536*32768-1-65536*32767-65500"), 35);
            due(measureBy("65536*32767+65535+1+65536*32767+65536+9"), 9);
            due(holds("65536*32768<0"), true);
            due(holds("65536*32768-1>0"), true);
            due(holds("99999*99999>0"), true);
            due(holds("99999*99999*3<0"), true);
            // Through -1 the least one is itself, and nothing is left over.
            due(holds("65536*32768/[0-1]=65536*32768"), true);
            due(measureBy("65536*32768%[0-1]+5"), 5);
            // Towards 0, and what is left over as what is divided.
            due(measureBy("[0-7]/2+10"), 7);
            due(measureBy("7/[0-2]+10"), 7);
            due(measureBy("[0-7]/[0-2]+10"), 13);
            due(measureBy("[0-7]%4+10"), 7);
            due(measureBy("7%[0-4]+10"), 13);
        });
    }

    private void refusals() {
        said("what is divided by 0 is REFUSED: then the whole C of the RULE does not hold,", () -> {
            due(holds("0=0"), true);
            due(holds("1/0=0"), false);
            due(holds("0/0=0"), false);
            due(holds("1%0=0"), false);
            due(holds("0/1=0"), true);
            due(holds("!1/0=0"), false);
            due(holds("!(1/0=0)"), false);
            due(holds("1/0=0|1=1"), false);
            due(holds("1%0=0|1=1"), false);
            due(holds("1=2|1/[a-2]=0|1=1"), false);
            due(holds("(1/0=0|1=1)|1=1"), false);
            due(holds("1=[1/0]|1=1"), false);
            // The next rule is asked all the same.
            fresh();
            law("m1(1/0=0);m2(1=1)");
            x.fact(0, 0, 0, 50);
            due(x.factIs(0, 3), 2);
            law("x(1/0=0);x(a=1)");
            due(x.fact(1, 0, 0, 50), -6);
            // However often it was refused, nothing of it is left.
            law("x(a=[b+[c+1/0]]|1=1);m[1+[2+3/0]](1=1);m9(1+[2+3%0]=0)");
            due(x.draws(60), 60);
            due(x.factIs(60, 3), 0);
            law("x(a=7);m[1+[2+3*4]](1=1)");
            due(x.fact(0, 0, 0, 50), 61);
            due(x.factIs(61, 3), 15);
        });
        said("the E of it is 0.", () -> {
            due(measureBy("5/0+9"), 0);
            due(measureBy("9+5/0"), 0);
            due(measureBy("9-5%0"), 0);
            due(measureBy("9+0*[5/[a-2]]"), 0);
            due(measureBy("9+0/5"), 9);
            fresh();
            summary("222:s");
            summary("222:s");
            law("u1+1/0(1=1)");
            x.fact(0, 0, 0, 1);
            due(x.summaryIs(0, 4), 1);
            due(x.summaryIs(1, 4), 0);
        });
        said("Of a C as much is asked, from the left, as matters.", () -> {
            due(holds("1=1|1/0=0"), true);
            due(holds("1=1|1/0=0&1=1"), true);
            due(holds("1=1|1=2&1/0=0"), true);
            due(holds("1=2&1/0=0|1=1"), true);
            due(holds("1=2&1=1&1/0=0|1=1"), true);
            due(holds("1=2|1=1|1/0=0"), true);
            due(holds("(1=1|1/0=0)&1=1"), true);
            due(holds("!(1=2&1/0=0)"), true);
            due(holds("!(1=1|1/0=0)|1=1"), true);
            due(holds("1=1&1/0=0|1=1"), false);
            due(holds("1=2|1/0=0|1=1"), false);
            due(holds("1/0=0&1=2|1=1"), false);
        });
    }

    private void wrongSigns() {
        said("FAULTS, the first from the left:", () -> {
            due(law("x(a=1;y"), -1005);
            due(law("x(123456=1)z"), -2007);
            due(law("z(123456=1)"), -1000);
            due(law("m[[[[[[[123456"), -5007);
            due(law("m123456[[[[[[["), -2006);
            due(law(rules(16) + ";x(((((((a=1)"), -4112);
            due(law("y" + rules(17)), -1000);
        });
        said("1 what can't stand there (the end, too)", () -> {
            onlyStand(this::law, "", "mux");
            onlyStand(this::law, "x", "(");
            onlyStand(this::law, "m", FACTORS);
            onlyStand(this::law, "u", FACTORS);
            onlyStand(this::law, "mk", "+-*/%(");
            onlyStand(this::law, "m1", "0123456789+-*/%(");
            onlyStand(this::law, "m12345", "0123456789+-*/%(");
            onlyStand(this::law, "m[1", "0123456789+-*/%]");
            onlyStand(this::law, "m[a]", "+-*/%(");
            onlyStand(this::law, "m1+", FACTORS);
            onlyStand(this::law, "m1%", FACTORS);
            onlyStand(this::law, "x(", FACTORS + "!(");
            onlyStand(this::law, "x(!", FACTORS + "!(");
            onlyStand(this::law, "x((", FACTORS + "!(");
            onlyStand(this::law, "x(a", "+-*/%<>=");
            onlyStand(this::law, "x(a<", FACTORS);
            onlyStand(this::law, "x(a<b", "+-*/%&|)");
            onlyStand(this::law, "x((a<b", "+-*/%&|)");
            onlyStand(this::law, "x((a<b)", "&|)");
            onlyStand(this::law, "x(a<b&", FACTORS + "!(");
            onlyStand(this::law, "x(a<b|", FACTORS + "!(");
            onlyStand(this::law, "x(a<b)", ";");
            onlyStand(this::law, "x(a<b);", "mux");
            onlyStand(this::law, rules(16), ";");
            onlyStand(this::law, rules(16) + ";", "mux");
        });
        said("1 what can't stand there (the end, too)", () -> {
            endsTooEarly(this::law, "m[a+12]*3(!(b<2)&c=7|w>1);u0(k=0);x(n=5)", 25, 33, 40);
            fresh();
            due(law("m1(a=1)aaaa"), -1007);
        });
    }

    private void limits() {
        said("2 a sixth digit, at it", () -> {
            due(law("x(12345=1)"), 1);
            due(law("x(123456=1)"), -2007);
            due(law("x(1234567=1)"), -2007);
            due(law("x(000001=1)"), -2007);
            due(law("x(a=99999)"), 1);
            due(law("x(a=999990)"), -2009);
            due(law("m00000(a=1)"), 1);
            due(law("m000000(a=1)"), -2006);
            due(law("m12345+[123456](a=1)"), -2013);
            due(law("m123456"), -2006);
            due(law("m12345"), -1006);
            due(law("m12345a"), -1006);
        });
        said("4 a 17th RULE, at its letter (if that can stand there)", () -> {
            due(law(rules(16)), 16);
            due(law(rules(16) + ";x(a=1)"), -4112);
            due(law(rules(16) + ";x"), -4112);
            due(law(rules(16) + ";m1(a=1)"), -4112);
            due(law(rules(16) + ";u"), -4112);
            due(law(rules(16) + ";y"), -1112);
            due(law(rules(16) + ";"), -1112);
            due(law(rules(16) + ";;"), -1112);
            due(law(rules(18)), -4112);
            due(x.count(5), 16);
        });
    }

    private void depths() {
        said("5 a seventh of ( [ ! that are open in one another, at it", () -> {
            for (int deep = 1; deep <= 8; deep++) {
                int due = deep < 7 ? 1 : -5007;
                due(law("x" + "(".repeat(deep) + "a=1" + ")".repeat(deep)), due);
                due(law("x(" + "!".repeat(deep - 1) + "a=1)"), due);
                due(law("x(" + "[".repeat(deep - 1) + "a" + "]".repeat(deep - 1) + "=1)"), due);
                due(law("m" + "[".repeat(deep) + "a" + "]".repeat(deep) + "(a=1)"), due);
            }
            due(law("x(!(!([a]=1)))"), 1);
            due(law("x(!(!([[a]]=1)))"), -5007);
            due(law("x(!(!((a=1))))"), 1);
            due(law("x(!(!(!(a=1))))"), -5007);
            due(law("x(((((a=[[1]])))))"), -5009);
            due(law("x(((((a=[1])&b=[[1]]))))"), 1);
            due(law("x(((((a=[1])&b=[[[1]]]))))"), -5017);
            // That which can't stand there is fault 1, however deep.
            due(law("x(!!!!!a=!a)"), -1009);
            due(law("m[[[[[[((1"), -1007);
        });
        said("(the ( of the RULE counts; a ! is open till its TEST ends; the E of a RULE stands ahead of it)", () -> {
            due(law("x((((((a=1))))))"), 1);
            due(law("x(((((((a=1)))))))"), -5007);
            due(law("x(!!!!!a=1&!!!!!a=1|!!!!!a=1)"), 1);
            due(law("x(!!!!!a=1&!!!!!!a=1)"), -5016);
            due(law("x(!!!!!a=[1])"), -5009);
            due(law("x(!!!!a=[1])"), 1);
            due(law("x(!!!!(a=1)&[[[[[a]]]]]=1)"), 1);
            due(law("x(!!!!(a=1&!a=1))"), -5011);
            due(law("x(!!!(a=1&!a=1))"), 1);
            due(law("m[[[[[[1]]]]]](((((([[a]]=1)"), -5020);
            due(law("m[[[[[[1]]]]]]+[[[[[[1]]]]]](((((([a]=1)"), -5034);
            due(law("m[[[[[[1]]]]]](!!!!!a=1);m[[[[[[1]]]]]]((((((a=1))))))"), 2);
            due(law("m[[[[[[[1]]]]]]](a=1)"), -5007);
        });
    }
}
