/** Each promise with answers reckoned by hand: ordinary calls, the edges that the document names, wrong inputs. */
public final class PromisesTest {
    private static int wrong = 0;
    private static int promise = 0;
    private static int place = 0;
    private static KeptSummaries x = new KeptSummaries();

    private PromisesTest() {
    }

    public static void main(String[] args) {
        newObject();
        facts();
        draws();
        feeds();
        laws();
        lawConditions();
        lawReckoning();
        lawFaults();
        shapes();
        summaries();
        questions();
        renewals();
        drops();
        coarseOnes();
        factsAsked();
        summariesAsked();
        groups();
        questionsAsked();
        coverings();
        coverDetails();
        ways();
        answers();
        rankings();
        answersBy();
        unlikes();
        nodes();
        belows();
        prices();
        greedyPicks();
        bestPicks();
        madeOfs();
        seeds();
        keeps();
        undos();
        checks();
        counts();
        System.out.println(wrong == 0 ? "all promises are kept" : wrong + " answers are not as due");
        System.exit(wrong == 0 ? 0 : 1);
    }

    private static void begin(int number) {
        promise = number;
        place = 0;
        x = new KeptSummaries();
    }

    private static void due(int got, int want) {
        place++;
        if (got != want) {
            wrong++;
            System.out.println("promise " + promise + ", answer " + place + ": " + got + ", due is " + want);
        }
    }

    private static void due(boolean got, boolean want) {
        due(got ? 1 : 0, want ? 1 : 0);
    }

    private static int tell(String text) {
        int[] w = Texts.words(text);
        for (int i = 0; i < w.length; i += 5) {
            x.feed(w[i], w[i + 1], w[i + 2], w[i + 3], w[i + 4]);
        }
        return text.length();
    }

    private static int law(String text) {
        return x.law(tell(text));
    }

    private static int shape(String text) {
        return x.shape(tell(text));
    }

    private static int summary(String text) {
        return x.summary(tell(text));
    }

    private static int question(String text) {
        return x.question(tell(text));
    }

    private static void fill(int facts) {
        for (int i = 0; i < facts; i++) {
            x.fact(i % 8, i / 8 % 8, i / 64 % 8, i % 100);
        }
    }

    /** Five facts: (0,0,0) 10 and 40, (1,0,0) 20, (2,3,1) 30, (7,7,7) 5. */
    private static void fiveFacts() {
        x.fact(0, 0, 0, 10);
        x.fact(1, 0, 0, 20);
        x.fact(2, 3, 1, 30);
        x.fact(0, 0, 0, 40);
        x.fact(7, 7, 7, 5);
    }

    private static void newObject() {
        begin(1);
        due(KeptSummaries.NONE, -1);
        for (int what = 0; what < 6; what++) {
            due(x.count(what), what == 3 ? 1 : 0);
        }
        due(x.questionIs(0), -2);
        due(x.undo(), false);
        due(x.factIs(0, 0), -1);
        due(x.coarse(1, 5), 2);
        KeptSummaries other = new KeptSummaries();
        other.fact(1, 1, 1, 1);
        due(x.count(0), 0);
    }

    private static void facts() {
        begin(2);
        due(x.fact(0, 0, 0, 0), 0);
        due(x.fact(7, 7, 7, 99), 1);
        int[][] not = {{-1, 0, 0, 0}, {8, 0, 0, 0}, {0, -1, 0, 0}, {0, 8, 0, 0}, {0, 0, -1, 0}, {0, 0, 8, 0},
            {0, 0, 0, -1}, {0, 0, 0, 100}};
        int before = x.count(3);
        for (int[] f : not) {
            due(x.fact(f[0], f[1], f[2], f[3]), -1);
        }
        due(x.count(3), before);
        due(x.count(0), 2);
        // A fact that is not taken draws all the same.
        due(law("x(a=3)"), 1);
        due(x.fact(3, 0, 0, 0), -6);
        due(x.count(3), (25173 * before + 13849) % 65536);
        due(x.count(0), 2);
        for (int i = 2; i < 240; i++) {
            due(x.fact(i % 3, 1, 1, 1), i);
        }
        before = x.count(3);
        due(x.fact(0, 0, 0, 0), -3);
        due(x.fact(3, 0, 0, 0), -3);
        due(x.fact(0, 0, 0, 100), -1);
        due(x.count(3), before);
    }

    private static void draws() {
        begin(3);
        due(x.draws(0), -1);
        due(x.draws(61), -1);
        due(x.draws(Integer.MIN_VALUE), -1);
        due(x.count(3), 1);
        // X: 39022, 61087, 20196, 45005, 3882: values 6, 7, 4, measure 5, draw 2.
        due(x.draws(1), 1);
        due(x.factIs(0, 0), 6);
        due(x.factIs(0, 1), 7);
        due(x.factIs(0, 2), 4);
        due(x.factIs(0, 3), 5);
        due(x.count(3), 3882);
        x.seed(1);
        law("x(w=2)");
        due(x.draws(1), 0);
        due(x.count(3), 3882);
        due(x.count(0), 1);
        x.seed(1);
        due(x.draws(60) < 60, true);
        begin(3);
        due(x.draws(60), 60);
        due(x.draws(60), 60);
        due(x.draws(60), 60);
        due(x.draws(59), 59);
        due(x.draws(60), 1);
        int full = x.count(3);
        due(x.draws(1), 0);
        due(x.count(3), full);
        due(x.count(0), 240);
    }

    private static void feeds() {
        begin(4);
        for (int i = 1; i <= 13; i++) {
            due(x.feed(0, 0, 0, 0, 0), 20 * i);
        }
        due(x.feed(0, 0, 0, 0, 0), -1);
        due(x.count(2), 260);
        due(x.check(0), -1);
        due(x.count(2), 0);
        // The highest byte first: measures 1, 2, 3, 4 and then none.
        for (int i = 1; i <= 4; i++) {
            x.fact(0, 0, 0, i);
        }
        due(x.feed(0x01020304, -1, -1, -1, -1), 20);
        due(x.check(20), -1);
        due(x.feed(0x01020304, -1, -1, 0x7fffffff, -1), 20);
        due(x.check(20), 12);
    }

    private static void laws() {
        begin(5);
        due(x.law(1), -1);
        tell("x(a=1)");
        due(x.law(0), -1);
        due(x.law(21), -1);
        due(x.law(-5), -1);
        due(x.count(2), 20);
        due(x.law(6), 1);
        due(x.count(2), 0);
        due(x.count(5), 1);
        due(law("m1(a=1);u2(b=2);x(c=3)"), 3);
        due(x.fact(1, 0, 0, 50), 0);
        due(x.factIs(0, 3), 1);
        // A fault: the one before stays, the tape is empty.
        due(law("m1(a=1"), -1006);
        due(x.count(5), 3);
        due(x.count(2), 0);
        due(x.fact(1, 0, 0, 50), 1);
        due(x.factIs(1, 3), 1);
        due(x.fact(1, 0, 3, 50), -6);
        for (int i = 0; i < 13; i++) {
            x.feed(0, 0, 0, 0, 0);
        }
        due(x.law(241), -1);
        due(x.count(2), 260);
        due(x.law(240), -1000);
        // 240 bytes, and that the first m whose C holds is the one.
        StringBuilder text = new StringBuilder("m1(a=1);m2(a<9);m3(1=1)");
        while (text.length() < 239) {
            text.insert(text.length() - 1, "+1");
        }
        text.insert(text.length() - 1, text.length() < 240 ? "0" : "");
        due(text.length(), 240);
        due(law(text.toString()), 3);
        x.fact(1, 0, 0, 50);
        due(x.factIs(2, 3), 1);
        x.fact(2, 0, 0, 50);
        due(x.factIs(3, 3), 2);
    }

    private static void lawConditions() {
        begin(5);
        // m beyond its bounds is the bound, a letter of the fact as told.
        law("m100(a=0);m0-1(a=1);m[b+c]*2(a=2)");
        x.fact(0, 0, 0, 7);
        due(x.factIs(0, 3), 99);
        x.fact(1, 0, 0, 7);
        due(x.factIs(1, 3), 0);
        x.fact(2, 3, 4, 7);
        due(x.factIs(2, 3), 14);
        x.fact(3, 3, 4, 7);
        due(x.factIs(3, 3), 7);
        // u asks of the measure as told and of facts and summaries without the fact.
        begin(5);
        law("m9(1=1);u0(m=50&n=1&k=1)");
        summary("222:s");
        x.fact(0, 0, 0, 50);
        due(x.summaryIs(0, 4), 0);
        x.fact(0, 0, 0, 50);
        due(x.summaryIs(0, 4), 2);
        due(x.group(0, 0, 3), 18);
        // No such summary, and an E below 0: none is made anew.
        law("u1(a=0);u0-1(a=1);u0(a<7)");
        x.fact(0, 0, 0, 1);
        due(x.summaryIs(0, 4), 2);
        x.fact(1, 0, 0, 1);
        due(x.summaryIs(0, 4), 2);
        x.fact(7, 0, 0, 1);
        due(x.summaryIs(0, 4), 2);
        x.fact(2, 0, 0, 1);
        due(x.summaryIs(0, 4), 6);
        // An E that is refused is 0, and so is the summary.
        law("u1/[a-a](a=5)");
        x.fact(5, 0, 0, 1);
        due(x.summaryIs(0, 4), 7);
        // Any x will do, and it comes before the others.
        law("x(a=1);x(a=2);u0(1=1)");
        due(x.fact(1, 0, 0, 1), -6);
        due(x.fact(2, 0, 0, 1), -6);
        due(x.summaryIs(0, 4), 7);
        due(x.fact(3, 0, 0, 1), 7);
        due(x.summaryIs(0, 4), 8);
        // w is the draw: X 1, then 39022.
        begin(5);
        law("m77(w=2)");
        x.fact(0, 0, 0, 1);
        due(x.factIs(0, 3), 77);
        // n is modulo 100.
        begin(5);
        fill(100);
        law("x(n=0)");
        due(x.fact(0, 0, 0, 0), -6);
    }

    private static int measureBy(String value) {
        begin(5);
        law("m" + value + "(1=1)");
        x.fact(2, 3, 5, 50);
        return x.factIs(0, 3);
    }

    private static boolean takenBy(String condition) {
        begin(5);
        law("x(" + condition + ")");
        return x.fact(2, 3, 5, 50) == 0;
    }

    private static void lawReckoning() {
        due(measureBy("1+2*3"), 7);
        due(measureBy("[1+2]*3"), 9);
        due(measureBy("20-5-3"), 12);
        due(measureBy("40/3/2"), 6);
        due(measureBy("40/[3/2]"), 40);
        due(measureBy("7-10%4*2+1"), 4);
        due(measureBy("30+[0-7]/2"), 27);
        due(measureBy("30+[0-7]%4"), 27);
        due(measureBy("a*b+c"), 11);
        due(measureBy("00099"), 99);
        due(measureBy("99999*99999"), 99);
        due(measureBy("99999*99999*3"), 0);
        // What is divided by 0: the E is 0.
        due(measureBy("9+1/0"), 0);
        due(measureBy("9+1%[a-2]"), 0);
        due(measureBy("0*[5/0]+7"), 0);
        due(measureBy("65536*32768/[0-1]/65536/[0-512]"), 64);
        // Such a C does not hold, with a ! ahead of it neither; but what does not matter is not asked.
        due(takenBy("1/0=0"), true);
        due(takenBy("!1/0=0"), true);
        due(takenBy("1/0=0|1=1"), true);
        due(takenBy("1=1|1/0=0"), false);
        due(takenBy("1=2&1/0=0|1=1"), false);
        due(takenBy("1=1&!(1=2&1/0=0)"), false);
        due(takenBy("(1=1|1/0=1)&1=1"), false);
        due(takenBy("1=1&1%0=1"), true);
        due(takenBy("!1=2"), false);
        due(takenBy("!!1=2"), true);
        due(takenBy("!(1=1&1=2)"), false);
        due(takenBy("!1=1&1=2|2=2"), false);
        due(takenBy("1=2|1=2&1=1"), true);
        due(takenBy("1=1|1=2&1=2"), false);
        due(takenBy("a<b&b<c&m>49&m<51"), false);
        due(takenBy("a<2"), true);
        due(takenBy("a>2"), true);
        due(takenBy("0-1<0"), false);
    }

    private static void lawFaults() {
        begin(5);
        String[] wrongs = {"y(a=1)", "m(a=1)", "x1(a=1)", "m1a(a=1)", "m1", "x(a=1)x", "x(a=1);", "x(a=1);y", "x(a)",
            "x(a=)", "x()", "x(a=1", "x(a=1))", "x((a=1)", "x((a+1)=2)", "x(a=1&)", "x(a==1)", "x(!)", "m[1(a=1)",
            "m1+(a=1)", "m-1(a=1)", "x(d=1)", "x(a =1)", "x(a=1|)", "x([a=1])", "x(1<2<3)", ";x(a=1)"};
        int[] places = {0, 1, 1, 2, 2, 6, 7, 7, 3, 4, 2, 5, 6, 7, 6, 6, 4, 3, 3, 3, 1, 2, 3, 6, 4, 5, 0};
        for (int i = 0; i < wrongs.length; i++) {
            due(law(wrongs[i]), -1000 - places[i]);
        }
        due(x.count(5), 0);
        due(law("x(12345=1)"), 1);
        due(law("x(123456=1)"), -2007);
        due(law("m000001(a=1)"), -2006);
        StringBuilder rules = new StringBuilder("x(a=1)");
        for (int i = 1; i < 16; i++) {
            rules.append(";x(a=1)");
        }
        due(law(rules.toString()), 16);
        due(law(rules + ";x(a=1)"), -4112);
        due(law(rules + ";m"), -4112);
        due(law(rules + ";a"), -1112);
        due(law(rules + ";"), -1112);
        due(x.count(5), 16);
        // The ( of the rule counts in its C, but not in its E.
        due(law("x((((((a=1))))))"), 1);
        due(law("x(((((((a=1)))))))"), -5007);
        due(law("x(!!!!!a=1)"), 1);
        due(law("x(!!!!!!a=1)"), -5007);
        due(law("x([[[[[a]]]]]=1)"), 1);
        due(law("x([[[[[[a]]]]]]=1)"), -5007);
        due(law("m[[[[[[1]]]]]](a=1)"), 1);
        due(law("m[[[[[[[1]]]]]]](a=1)"), -5007);
        due(law("x(!(!([a]=1)))"), 1);
        due(law("x(!(!([[a]]=1)))"), -5007);
        // A ! is open till its test ends, a bracket till it is closed.
        due(law("x(!!!!!a=1&!!!!!a=1|(((((a=1)))))&[[[[[a]]]]]=[[[[[a]]]]])"), 1);
        due(law("x(!!!!!a=[1])"), -5009);
        due(law("x((((((a=1)))))&((((((a=1)))))))"), -5021);
    }

    private static void shapes() {
        begin(6);
        due(x.shape(1), -1);
        tell("a0=3");
        due(x.shape(0), -1);
        due(x.shape(61), -1);
        due(x.shape(21), -1);
        due(x.count(2), 20);
        due(x.shape(4), 1);
        due(x.count(2), 0);
        due(x.coarse(0, 0), 3);
        due(x.coarse(0, 1), 0);
        due(x.coarse(1, 0), 0);
        due(shape("b7=0;c7=0;a7=0"), 3);
        due(x.coarse(0, 0), 3);
        due(x.coarse(1, 7), 0);
        String[] wrongs = {"d0=0", "a8=0", "a0-0", "a0=4", "a0=0;", "a0=0a", "a0", "a0=", "a", " a0=0", "a0=0;;"};
        int[] places = {0, 1, 2, 3, 5, 4, 2, 3, 1, 0, 5};
        fiveFacts();
        summary("000:s");
        for (int i = 0; i < wrongs.length; i++) {
            due(shape(wrongs[i]), -1000 - places[i]);
        }
        due(shape("a1=1;a1=1"), -6005);
        due(shape("a1=1;b1=2;a1"), -6010);
        due(shape("a1=1;a1x"), -6005);
        due(x.coarse(0, 1), 0);
        due(x.count(1), 1);
        due(shape("c0=2;c9=1"), -1006);
        due(shape("c1=2"), 1);
        due(x.coarse(2, 0), 0);
        due(x.coarse(2, 1), 2);
        summary("000:s");
        // Summaries go, the question's spans let what they let.
        due(question("c:122;a1=0-0"), 1);
        due(x.questionIs(10), 130);
        due(shape("a1=2;a7=2"), 2);
        due(x.count(1), 0);
        due(x.questionIs(10), 130);
        due(x.answer(0, 0), 2);
        due(x.answer(0, 3), 2);
        due(x.answer(1, 0), -4);
        StringBuilder longest = new StringBuilder("a0=0");
        for (int i = 1; i < 12; i++) {
            longest.append(';').append((char) ('a' + i / 8)).append(i % 8).append("=1");
        }
        due(shape(longest.toString()), 12);
        for (int i = 0; i < 13; i++) {
            x.feed(0, 0, 0, 0, 0);
        }
        due(x.shape(61), -1);
        due(x.shape(60), -1000);
    }

    private static void summaries() {
        begin(7);
        due(x.summary(5), -1);
        tell("222:s");
        due(x.summary(0), -1);
        due(x.summary(21), -1);
        due(x.count(2), 20);
        due(x.summary(5), 0);
        fiveFacts();
        due(summary("012:xncs;c0=0-7;a1=0-3;b0=1-1"), 1);
        due(x.summaryIs(1, 4), 5);
        String[] wrongs = {"x00:s", "00:s", "000s", "000:", "000:;a0=0-1", "000:a", "000:sz", "000:s;", "000:s;d0=0-1",
            "000:s;ax=0-1", "000:s;a0-0-1", "000:s;a0=8-9", "000:s;a0=0=1", "000:s;a0=0-8", "000:s;a0=0-1x", "0", "000: s",
            "000:sd", "000:v"};
        int[] places = {0, 2, 3, 4, 4, 4, 5, 6, 6, 7, 8, 9, 10, 11, 12, 1, 4, 5, 4};
        for (int i = 0; i < wrongs.length; i++) {
            due(summary(wrongs[i]), -1000 - places[i]);
        }
        due(summary("300:s"), -3000);
        due(summary("093:s"), -3001);
        due(summary("003:s"), -3002);
        due(summary("000:s;a2=0-1"), -3007);
        due(summary("000:s;a9=0-1"), -3007);
        due(summary("000:s;a0=2-1"), -3011);
        due(summary("000:ss"), -6005);
        due(summary("000:scnxs"), -6008);
        due(summary("000:scs"), -6006);
        due(summary("000:s;a0=0-1;a1=0-1"), -6013);
        due(summary("000:s;a0=0-1;b0=0-1;c0=0-1;b"), -6027);
        due(x.count(1), 2);
        for (int i = 2; i < 8; i++) {
            due(summary("000:s"), i);
        }
        due(summary("000:s"), -3);
        due(summary("000:"), -1004);
        due(x.count(1), 8);
        for (int i = 0; i < 5; i++) {
            x.feed(0, 0, 0, 0, 0);
        }
        due(x.summary(81), -1);
        due(x.summary(80), -1000);
        due(x.count(2), 0);
    }

    private static void questions() {
        begin(8);
        due(x.question(5), -1);
        fiveFacts();
        tell("v:122");
        due(x.question(0), -1);
        due(x.question(21), -1);
        due(x.count(2), 20);
        due(x.question(5), 3);
        due(question("s:000"), 4);
        due(question("s:000;a0=0-1"), 2);
        due(question("s:222;a0=3-6"), 0);
        String[] wrongs = {"y:000", "s000", "s:00", "s:000:", "s:000;", "s:000;d", "s:0000", "s:000;a0=0-", "sc:000",
            ":000", "s:00a"};
        int[] places = {0, 1, 4, 5, 6, 6, 5, 11, 1, 0, 4};
        for (int i = 0; i < wrongs.length; i++) {
            due(question(wrongs[i]), -1000 - places[i]);
        }
        due(question("s:300"), -3002);
        due(question("s:003"), -3004);
        due(question("s:000;a2=0-0"), -3007);
        due(question("s:000;a0=7-6"), -3011);
        due(question("s:000;b0=7-7;b0=7-7"), -6013);
        due(x.questionIs(10), 120);
        due(x.count(2), 0);
        for (int i = 0; i < 5; i++) {
            x.feed(0, 0, 0, 0, 0);
        }
        due(x.question(81), -1);
        due(x.question(80), -1000);
    }

    private static void renewals() {
        begin(9);
        due(x.renew(0), -1);
        summary("222:sc");
        fiveFacts();
        due(x.summaryIs(0, 4), 0);
        due(x.summaryIs(0, 5), 0);
        due(x.renew(0), 5);
        due(x.renew(0), 0);
        due(x.summaryIs(0, 4), 5);
        due(x.group(0, 0, 3), 105);
        due(x.renew(1), -1);
        due(x.renew(-1), -1);
    }

    private static void drops() {
        begin(10);
        due(x.drop(0), false);
        summary("000:s");
        summary("111:c");
        summary("222:n");
        due(x.drop(3), false);
        due(x.drop(-1), false);
        due(x.drop(0), true);
        due(x.count(1), 2);
        due(x.summaryIs(0, 3), 2);
        due(x.summaryIs(1, 3), 4);
        due(x.drop(1), true);
        due(x.summaryIs(0, 0), 1);
        due(summary("000:x"), 1);
        due(x.summaryIs(0, 3), 2);
        due(x.summaryIs(1, 3), 8);
    }

    private static void coarseOnes() {
        begin(11);
        for (int value = 0; value < 8; value++) {
            due(x.coarse(value % 3, value), value / 2);
        }
        due(x.coarse(-1, 0), -1);
        due(x.coarse(3, 0), -1);
        due(x.coarse(0, -1), -1);
        due(x.coarse(0, 8), -1);
        due(x.coarse(Integer.MAX_VALUE, Integer.MIN_VALUE), -1);
    }

    private static void factsAsked() {
        begin(12);
        x.fact(1, 2, 3, 44);
        due(x.factIs(0, 0), 1);
        due(x.factIs(0, 1), 2);
        due(x.factIs(0, 2), 3);
        due(x.factIs(0, 3), 44);
        due(x.factIs(0, 4), -1);
        due(x.factIs(0, -1), -1);
        due(x.factIs(1, 0), -1);
        due(x.factIs(-1, 0), -1);
        fill(239);
        due(x.factIs(239, 3), 38);
        due(x.factIs(240, 3), -1);
    }

    private static void summariesAsked() {
        begin(13);
        fiveFacts();
        summary("120:cx;b1=0-1;c0=1-7");
        due(x.summaryIs(0, 0), 1);
        due(x.summaryIs(0, 1), 2);
        due(x.summaryIs(0, 2), 0);
        due(x.summaryIs(0, 3), 10);
        due(x.summaryIs(0, 4), 5);
        due(x.summaryIs(0, 5), 1);
        due(x.summaryIs(0, 6), 1);
        due(x.summaryIs(0, 10), 255);
        due(x.summaryIs(0, 11), 15);
        due(x.summaryIs(0, 12), 254);
        x.fact(2, 2, 2, 2);
        due(x.summaryIs(0, 5), 1);
        due(x.summaryIs(0, 6), 2);
        int[] none = {-1, 7, 8, 9, 13, Integer.MIN_VALUE, Integer.MAX_VALUE};
        for (int what : none) {
            due(x.summaryIs(0, what), -1);
        }
        due(x.summaryIs(1, 0), -1);
        due(x.summaryIs(-3, 0), -1);
        summary("000:s;a1=5-7");
        due(x.summaryIs(1, 10), 0);
        due(x.summaryIs(1, 5), 0);
    }

    private static void groups() {
        begin(14);
        fiveFacts();
        summary("012:sn");
        due(x.group(0, 0, 0), 0);
        due(x.group(0, 0, 3), 50);
        due(x.group(0, 0, 4), -2);
        due(x.group(0, 0, 5), 10);
        due(x.group(0, 0, 6), -2);
        due(x.group(0, 2, 0), 2);
        due(x.group(0, 2, 1), 1);
        due(x.group(0, 2, 2), 0);
        due(x.group(0, 3, 0), 7);
        due(x.group(0, 3, 1), 3);
        due(x.group(0, 4, 0), -4);
        due(x.group(0, 4, 4), -4);
        due(x.group(0, -1, 0), -1);
        due(x.group(0, 0, 7), -1);
        due(x.group(0, 0, -1), -1);
        due(x.group(1, 0, 0), -1);
        due(x.group(-3, 0, 0), -1);
        summary("222:cx");
        x.fact(0, 0, 0, 99);
        due(x.group(1, 0, 3), -2);
        due(x.group(1, 0, 4), 5);
        due(x.group(1, 0, 6), 40);
        // Rising by a, then b, then c.
        begin(14);
        x.fact(1, 0, 0, 1);
        x.fact(0, 1, 0, 2);
        x.fact(0, 0, 1, 3);
        summary("000:s");
        due(x.group(0, 0, 3), 3);
        due(x.group(0, 1, 3), 2);
        due(x.group(0, 2, 3), 1);
    }

    private static void questionsAsked() {
        begin(15);
        due(x.questionIs(0), -2);
        due(x.questionIs(12), -2);
        due(x.questionIs(4), -1);
        String whats = "scnxvdm";
        for (int i = 0; i < 7; i++) {
            question(whats.charAt(i) + ":012;c1=1-2;a0=7-7");
            due(x.questionIs(3), i);
        }
        due(x.questionIs(0), 0);
        due(x.questionIs(1), 1);
        due(x.questionIs(2), 2);
        due(x.questionIs(10), 128);
        due(x.questionIs(11), 255);
        due(x.questionIs(12), 60);
        int[] none = {-1, 4, 9, 13, Integer.MIN_VALUE};
        for (int what : none) {
            due(x.questionIs(what), -1);
        }
    }

    private static int coversBy(String summary, String question) {
        begin(16);
        summary(summary);
        question(question);
        return x.covers(0);
    }

    private static void coverings() {
        begin(16);
        due(x.covers(0), -1);
        summary("000:s");
        due(x.covers(0), -2);
        due(x.covers(1), -1);
        due(x.covers(-1), -1);
        due(coversBy("000:s", "s:000"), 1);
        due(coversBy("000:c", "s:000"), 0);
        due(coversBy("000:c", "c:000"), 1);
        due(coversBy("000:n", "n:000"), 1);
        due(coversBy("000:x", "x:000"), 1);
        due(coversBy("000:x", "n:000"), 0);
        due(coversBy("000:s", "v:000"), 0);
        due(coversBy("000:c", "v:000"), 0);
        due(coversBy("000:cs", "v:000"), 1);
        due(coversBy("000:scnx", "d:222"), 0);
        due(coversBy("000:scnx", "m:222"), 0);
        // No coarser.
        due(coversBy("010:s", "s:000"), 0);
        due(coversBy("012:s", "s:112"), 1);
        due(coversBy("012:s", "s:221"), 0);
        due(coversBy("222:s", "s:222"), 1);
        // The question's span lets no value that its own does not.
        due(coversBy("000:s;a0=1-4", "s:000"), 0);
        due(coversBy("000:s;a0=1-4", "s:000;a0=1-4"), 1);
        due(coversBy("000:s;a0=1-4", "s:000;a0=2-3"), 1);
        due(coversBy("000:s;a0=1-4", "s:000;a0=2-5"), 0);
        due(coversBy("000:s;a0=1-4", "s:000;b0=1-4"), 0);
        // Each number wholly or not at all: of those values only that its span lets.
        due(coversBy("100:s", "s:100;a0=0-1"), 1);
        due(coversBy("100:s", "s:100;a0=0-2"), 0);
        due(coversBy("100:s;a0=0-2", "s:100;a0=0-2"), 1);
        due(coversBy("100:s;a0=1-6", "s:100;a0=1-3"), 1);
        due(coversBy("100:s;a0=1-6", "s:100;a0=2-6"), 1);
        due(coversBy("100:s;a0=1-6", "s:100;a0=1-2"), 0);
        due(coversBy("200:s", "s:200;a0=0-7"), 1);
        due(coversBy("200:s", "s:200;a0=0-6"), 0);
        due(coversBy("200:s;a0=0-6", "s:200;a0=0-6"), 1);
        due(coversBy("200:s;a0=0-6", "s:200;a0=0-5"), 0);
        // A span that lets none.
        due(coversBy("200:s", "s:200;a1=5-7"), 1);
        due(coversBy("200:s;a1=4-4", "s:200;a1=5-7"), 1);
        due(coversBy("200:s;a1=4-4", "s:200"), 0);
        // By the shape that is told.
        begin(16);
        shape("a0=3;a7=0");
        summary("100:s");
        question("s:100;a1=3-3");
        due(x.questionIs(10), 65);
        due(x.covers(0), 1);
        question("s:100;a0=0-1");
        due(x.covers(0), 0);
    }

    private static void coverDetails() {
        begin(17);
        fiveFacts();
        summary("002:s");
        summary("222:s");
        question("s:222;a0=0-6");
        due(x.coverIs(0, 3), 3);
        begin(17);
        due(x.coverIs(0, 0), -1);
        fiveFacts();
        summary("001:s;b0=0-6");
        due(x.coverIs(0, 0), -2);
        question("s:012;a0=0-1;b0=0-6");
        due(x.coverIs(0, 0), 1);
        due(x.coverIs(0, 1), 6);
        due(x.coverIs(0, 2), 0);
        due(x.coverIs(0, 3), 2);
        x.fact(0, 6, 0, 1);
        x.fact(1, 7, 0, 1);
        x.fact(2, 6, 0, 1);
        due(x.coverIs(0, 2), 1);
        due(x.coverIs(0, 3), 2);
        question("s:012;b0=0-6;c1=3-3");
        due(x.coverIs(0, 0), 4);
        due(x.coverIs(0, 3), 0);
        question("s:012;b0=0-3;c1=3-3");
        due(x.coverIs(0, 0), 6);
        question("s:001;b0=0-6");
        due(x.coverIs(0, 0), 0);
        due(x.coverIs(0, 1), 0);
        question("s:222;b1=7-7");
        due(x.coverIs(0, 0), 2);
        due(x.coverIs(0, 1), 7);
        due(x.coverIs(0, 3), 0);
        due(x.coverIs(0, 4), -1);
        due(x.coverIs(0, -1), -1);
        due(x.coverIs(1, 0), -1);
        question("s:222");
        due(x.coverIs(0, 0), -2);
    }

    private static void ways() {
        begin(18);
        due(x.way(0), -2);
        due(x.way(2), -1);
        due(x.way(-1), -1);
        question("s:222");
        due(x.way(0), -3);
        due(x.way(1), 0);
        summary("000:s");
        due(x.way(0), 0);
        due(x.way(1), 0);
        fiveFacts();
        // None of the facts is in it: as dear as the facts, and so the way.
        due(x.way(0), 0);
        due(x.way(1), 5);
        summary("000:s");
        due(x.way(0), 1);
        due(x.way(1), 4);
        summary("010:s");
        due(x.way(0), 1);
        summary("111:s");
        due(x.way(0), 3);
        due(x.way(1), 3);
        question("s:000");
        due(x.way(0), 1);
        question("c:000");
        due(x.way(0), -3);
        due(x.way(1), 5);
        // No summary is dearer than the facts, but one of all of them and its groups may be as dear.
        begin(18);
        fill(3);
        summary("000:s");
        question("s:222");
        due(x.way(0), 0);
        due(x.way(1), 3);
    }

    private static void answers() {
        begin(19);
        due(x.answer(0, 0), -2);
        due(x.answer(0, 4), -1);
        due(x.answer(-1, 0), -1);
        fiveFacts();
        due(question("v:022"), 4);
        due(x.answer(0, 3), 25);
        due(x.answer(3, 0), 7);
        due(x.answer(4, 0), -4);
        due(x.answer(0, -1), -1);
        question("v:222");
        due(x.answer(0, 3), 21);
        x.fact(0, 0, 0, 4);
        due(x.answer(0, 3), 18);
        question("m:222");
        due(x.answer(0, 3), 10);
        x.fact(0, 0, 0, 10);
        due(x.answer(0, 3), 10);
        x.fact(0, 0, 0, 99);
        x.fact(0, 0, 0, 99);
        due(x.answer(0, 3), 20);
        question("d:222");
        due(x.answer(0, 3), 7);
        question("d:122");
        due(x.answer(0, 3), 5);
        due(x.answer(1, 3), 1);
        question("m:111");
        due(x.answer(0, 3), 20);
        due(x.answer(1, 0), 1);
        due(x.answer(1, 1), 1);
        due(x.answer(1, 2), 0);
        question("n:222;a0=0-0");
        due(x.answer(0, 3), 4);
        question("x:222;a0=1-2");
        due(x.answer(0, 3), 30);
        question("c:222;a0=1-2");
        due(x.answer(0, 3), 2);
        // Measures 0 are measures.
        begin(19);
        x.fact(0, 0, 0, 0);
        x.fact(0, 0, 0, 0);
        question("d:222");
        due(x.answer(0, 3), 1);
        question("m:222");
        due(x.answer(0, 3), 0);
        question("n:222");
        due(x.answer(0, 3), 0);
        x.fact(0, 0, 0, 1);
        question("d:222");
        due(x.answer(0, 3), 2);
    }

    private static void rankings() {
        begin(20);
        due(x.ranked(0, 0), -2);
        due(x.ranked(-1, 0), -1);
        due(x.ranked(0, 4), -1);
        x.fact(0, 0, 0, 5);
        x.fact(1, 0, 0, 9);
        x.fact(2, 0, 0, 5);
        x.fact(3, 0, 0, 0);
        x.fact(4, 0, 0, 9);
        question("s:022");
        int[] order = {1, 4, 0, 2, 3};
        int[] values = {9, 9, 5, 5, 0};
        for (int i = 0; i < 5; i++) {
            due(x.ranked(i, 0), order[i]);
            due(x.ranked(i, 1), 0);
            due(x.ranked(i, 3), values[i]);
        }
        due(x.ranked(5, 0), -4);
        due(x.ranked(Integer.MAX_VALUE, 0), -4);
        summary("022:s");
        x.fact(3, 0, 0, 99);
        due(x.way(0), 0);
        due(x.ranked(0, 0), 3);
        due(x.ranked(0, 3), 99);
        question("d:022");
        due(x.ranked(0, 0), 3);
        due(x.ranked(0, 3), 2);
        due(x.ranked(1, 0), 0);
        due(x.ranked(4, 0), 4);
        // The greatest sum that there can be.
        begin(20);
        for (int i = 0; i < 240; i++) {
            x.fact(0, 0, 0, 99);
        }
        question("s:222");
        due(x.ranked(0, 3), 23760);
        due(x.ranked(1, 3), -4);
    }

    private static void answersBy() {
        begin(21);
        due(x.answerBy(-3, 0, 0), -2);
        due(x.answerBy(0, 0, 0), -1);
        due(x.answerBy(-1, 0, 0), -1);
        fiveFacts();
        summary("000:scnx");
        summary("111:scnx;a0=0-1");
        x.fact(1, 1, 1, 3);
        due(x.answerBy(0, 0, 0), -2);
        question("v:122;a0=0-1");
        due(x.answerBy(-3, 0, 3), 18);
        due(x.answerBy(0, 0, 3), 18);
        due(x.answerBy(1, 0, 3), 18);
        due(x.answerBy(1, 1, 3), -4);
        due(x.answerBy(2, 0, 3), -1);
        due(x.answerBy(0, 0, 4), -1);
        due(x.answerBy(0, -1, 0), -1);
        due(x.answerBy(-3, -1, 0), -1);
        question("n:122");
        due(x.answerBy(0, 0, 3), 3);
        due(x.answerBy(0, 1, 0), 1);
        due(x.answerBy(0, 1, 3), 30);
        due(x.answerBy(0, 2, 0), 3);
        due(x.answerBy(1, 0, 0), -5);
        due(x.answerBy(1, 9, 0), -5);
        question("x:222");
        due(x.answerBy(0, 0, 3), 40);
        question("c:222");
        due(x.answerBy(0, 0, 3), 6);
        question("m:222");
        due(x.answerBy(0, 0, 3), -5);
        due(x.answerBy(-3, 0, 3), 10);
    }

    private static void unlikes() {
        begin(22);
        due(x.unlike(0), -1);
        due(x.unlike(-3), -1);
        fiveFacts();
        summary("000:sc");
        due(x.unlike(0), -2);
        question("x:222");
        due(x.unlike(0), -2);
        question("v:122");
        due(x.unlike(0), 0);
        x.fact(4, 4, 4, 44);
        due(x.unlike(0), 0);
        x.keep();
        x.fact(5, 4, 4, 44);
        x.renew(0);
        x.undo();
        x.fact(6, 4, 4, 11);
        due(x.unlike(0), 0);
        due(x.unlike(1), -1);
    }

    private static void nodes() {
        begin(23);
        due(x.node(-1), -1);
        due(x.node(27), -1);
        due(x.node(26), 0);
        fiveFacts();
        due(x.node(0), 4);
        due(x.node(26), 1);
        due(x.node(8), 4);
        due(x.node(17), 3);
        due(x.node(24), 3);
        due(x.node(25), 2);
        due(x.node(13), 3);
        shape("a1=3");
        due(x.node(17), 3);
        shape("a2=3");
        due(x.node(17), 2);
        due(x.node(8), 4);
        fill(235);
        // Of the five only (7, 7, 7) is not among those filled in.
        due(x.node(0), 236);
        due(x.node(8), 8);
    }

    private static void belows() {
        begin(24);
        due(x.below(0, 0), 1);
        due(x.below(26, 0), 1);
        due(x.below(0, 26), 0);
        due(x.below(1, 0), 1);
        due(x.below(0, 1), 0);
        due(x.below(9, 1), 0);
        due(x.below(10, 1), 1);
        due(x.below(5, 7), 0);
        due(x.below(8, 7), 1);
        due(x.below(-1, 0), -1);
        due(x.below(27, 0), -1);
        due(x.below(0, -1), -1);
        due(x.below(0, 27), -1);
    }

    private static void prices() {
        begin(25);
        due(x.price(-1), -1);
        due(x.price(134217728), -1);
        due(x.price(134217727), 0);
        x.fact(0, 0, 0, 1);
        x.fact(0, 0, 1, 2);
        x.fact(0, 0, 1, 2);
        due(x.price(0), 81);
        // Node 0 has two groups, node 1 one: 18 nodes are below it.
        due(x.price(1), 54);
        due(x.price(2), 18 + 27);
        due(x.price(3), 18 + 18);
        due(x.price(1 << 26), 1 + 78);
        due(x.price(134217727), 36);
    }

    private static void greedyPicks() {
        begin(26);
        due(x.greedy(0, 0), -1);
        due(x.greedy(7, 0), -1);
        due(x.greedy(1, 1), -1);
        due(x.greedy(1, 9), -1);
        due(x.greedy(1, 11), -1);
        due(x.greedy(6, 16), -1);
        due(x.greedy(6, -1), -1);
        // Of like ones the lowest, also if it makes nothing cheaper.
        for (int i = 0; i < 6; i++) {
            due(x.greedy(6, 10 + i), i);
        }
        x.fact(0, 0, 0, 1);
        x.fact(0, 0, 1, 2);
        x.fact(0, 0, 1, 2);
        due(x.greedy(1, 10), 1);
        due(x.greedy(1, 0), 45);
        due(x.greedy(2, 10), 1);
        due(x.greedy(2, 11), 0);
        due(x.greedy(2, 0), 36);
        due(x.greedy(3, 12), 2);
        due(x.greedy(3, 0), 36);
    }

    private static void bestPicks() {
        begin(27);
        due(x.best(0, 0), -1);
        due(x.best(3, 0), -1);
        due(x.best(1, 3), -1);
        due(x.best(2, 3), -1);
        due(x.best(1, -1), -1);
        due(x.best(1, 2), -2);
        due(x.best(1, 1), 0);
        due(x.best(2, 1), 0);
        due(x.best(2, 2), 1);
        x.fact(0, 0, 0, 1);
        x.fact(0, 0, 1, 2);
        x.fact(0, 0, 1, 2);
        due(x.best(1, 0), 45);
        due(x.best(1, 1), 1);
        due(x.best(2, 0), 36);
        due(x.best(2, 1), 0);
        due(x.best(2, 2), 1);
        // The best two need not hold the best one, which greedy takes first. Node 7 has 3 groups and 6 nodes below,
        // node 8 has 2 and 3, node 19 has 3 and 6.
        begin(27);
        x.fact(2, 1, 3, 1);
        x.fact(0, 0, 0, 1);
        x.fact(2, 3, 2, 1);
        x.fact(0, 3, 3, 1);
        due(x.best(1, 1), 7);
        due(x.best(1, 0), 6 * 3 + 21 * 4);
        due(x.best(2, 1), 8);
        due(x.best(2, 2), 19);
        due(x.best(2, 0), 3 * 2 + 5 * 3 + 19 * 4);
        due(x.greedy(2, 10), 7);
        due(x.greedy(2, 11), 19);
        due(x.greedy(2, 0), 6 * 3 + 4 * 3 + 17 * 4);
    }

    private static void madeOfs() {
        begin(28);
        due(x.madeOf(0), -1);
        summary("000:scnx");
        summary("111:sc");
        summary("122:s;a0=0-1");
        summary("000:s;a0=0-1");
        summary("000:s;a0=0-0");
        due(x.madeOf(0), 0);
        due(x.madeOf(1), 1);
        due(x.madeOf(2), 1 | 2 | 8);
        due(x.madeOf(3), 1);
        due(x.madeOf(4), 1 | 8);
        // What was made of fewer facts does not matter; like ones are made of each other.
        fiveFacts();
        summary("000:scnx");
        due(x.madeOf(5), 1);
        due(x.madeOf(0), 32);
        due(x.madeOf(6), -1);
        due(x.madeOf(-1), -1);
    }

    private static void seeds() {
        begin(29);
        due(x.seed(-1), false);
        due(x.seed(65536), false);
        due(x.count(3), 1);
        due(x.seed(65535), true);
        due(x.count(3), 65535);
        due(x.seed(0), true);
        x.fact(0, 0, 0, 0);
        due(x.count(3), 13849);
    }

    private static void keeps() {
        begin(30);
        due(x.keep(), 0);
        fiveFacts();
        due(x.keep(), 5);
        x.fact(0, 0, 0, 0);
        due(x.keep(), 6);
        x.fact(0, 0, 0, 0);
        due(x.undo(), true);
        due(x.count(0), 6);
    }

    private static void undos() {
        begin(31);
        due(x.undo(), false);
        x.keep();
        x.fact(1, 1, 1, 1);
        due(x.undo(), true);
        due(x.count(0), 0);
        due(x.count(3), 1);
        begin(31);
        fiveFacts();
        summary("000:s");
        summary("222:c");
        question("c:222");
        x.keep();
        int seed = x.count(3);
        x.fact(1, 1, 1, 1);
        x.fact(2, 2, 2, 2);
        x.renew(1);
        x.drop(0);
        law("x(a=7)");
        question("s:222");
        x.feed(1, 2, 3, 4, 5);
        due(x.undo(), true);
        due(x.count(0), 5);
        due(x.count(1), 2);
        due(x.count(2), 20);
        due(x.count(3), seed);
        due(x.count(4), 105);
        due(x.count(5), 1);
        due(x.summaryIs(0, 3), 1);
        due(x.summaryIs(1, 4), 5);
        due(x.group(1, 0, 4), 5);
        due(x.questionIs(3), 0);
        // Undone once more, and what was made since does not reach what was kept.
        x.fact(3, 3, 3, 3);
        x.renew(0);
        due(x.undo(), true);
        due(x.summaryIs(0, 4), 5);
        due(x.count(0), 5);
        // A shape with a fault is not told, one like that before is.
        x.check(0);
        shape("a0=9");
        due(x.undo(), true);
        due(x.count(1), 2);
        shape("a0=0");
        summary("000:s");
        due(x.undo(), true);
        due(x.count(1), 0);
        summary("000:s");
        due(x.undo(), true);
        due(x.count(1), 0);
        summary("000:s");
        x.keep();
        x.drop(0);
        shape("a0=3");
        due(x.undo(), true);
        due(x.coarse(0, 0), 3);
        due(x.count(1), 0);
        summary("000:s");
        x.keep();
        x.drop(0);
        due(x.undo(), true);
        due(x.count(1), 1);
    }

    private static void checks() {
        begin(32);
        due(x.check(1), -2);
        due(x.check(0), -1);
        due(x.check(-1), -2);
        x.fact(0, 0, 0, 1);
        x.fact(0, 0, 0, 2);
        x.feed(0x0102ffff, 0, 0, 0, 0);
        due(x.check(21), -2);
        due(x.check(241), -2);
        due(x.count(2), 20);
        due(x.check(4), -1);
        due(x.count(2), 0);
        x.feed(0x0102ffff, 0, 0, 0, 0);
        due(x.check(5), 4);
        due(x.count(2), 0);
        x.feed(0x01030000, 0, 0, 0, 0);
        due(x.check(1), -1);
        x.feed(0x01030000, 0, 0, 0, 0);
        due(x.check(20), 1);
        x.feed(0, 0, 0, 0, 0);
        due(x.check(20), 0);
        for (int i = 0; i < 13; i++) {
            x.feed(0, 0, 0, 0, 0);
        }
        due(x.check(241), -2);
        due(x.check(240), 0);
    }

    private static void counts() {
        begin(33);
        fiveFacts();
        summary("000:s");
        law("x(a=1);x(a=2)");
        x.feed(0, 0, 0, 0, 0);
        int[] wanted = {5, 1, 20, 3882, 105, 2};
        for (int what = 0; what < 6; what++) {
            due(x.count(what), wanted[what]);
        }
        due(x.count(6), -1);
        due(x.count(-1), -1);
        due(x.count(Integer.MAX_VALUE), -1);
    }
}
