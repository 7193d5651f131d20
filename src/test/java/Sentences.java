import java.util.function.IntUnaryOperator;
import java.util.function.ToIntFunction;

/** Tests that quote the sentence of the document that they test; each begins with a new object. */
abstract class Sentences {
    private final Document document;
    private String part = "";
    private String sentence = "";
    private int place = 0;
    private int wrong = 0;
    private int tests = 0;
    KeptSummaries x = new KeptSummaries();

    Sentences(Document document) {
        this.document = document;
    }

    abstract void all();

    final int wrong() {
        return wrong;
    }

    final int tests() {
        return tests;
    }

    final void part(String begin, String end) {
        part = begin;
        if (!document.part(begin, end)) {
            fail("there is no such part");
        }
    }

    final void promise(int number) {
        part = "promise " + number;
        if (!document.promise(number)) {
            fail("there is no such promise");
        }
    }

    /** A machine's own exception in a call is a wrong answer, too. */
    final void said(String quote, Runnable test) {
        sentence = quote;
        place = 0;
        tests++;
        if (!document.quote(quote)) {
            fail("the document does not say so");
        }
        fresh();
        try {
            test.run();
        } catch (RuntimeException thrown) {
            fail("behind answer " + place + " a call threw " + thrown);
        }
    }

    final void fresh() {
        x = new KeptSummaries();
    }

    final void fail(String why) {
        wrong++;
        System.out.println(part + " | " + sentence + " | " + why);
    }

    final void due(int got, int want) {
        place++;
        if (got != want) {
            fail("answer " + place + " is " + got + ", due is " + want);
        }
    }

    final void due(boolean got, boolean want) {
        due(got ? 1 : 0, want ? 1 : 0);
    }

    /** Answers from asked 0 on. */
    final void dueAll(IntUnaryOperator call, int... wants) {
        for (int i = 0; i < wants.length; i++) {
            due(call.applyAsInt(i), wants[i]);
        }
    }

    // ---- what the tests tell

    final int tell(String text) {
        int[] w = Texts.words(text);
        for (int i = 0; i < w.length; i += 5) {
            x.feed(w[i], w[i + 1], w[i + 2], w[i + 3], w[i + 4]);
        }
        return text.length();
    }

    final void feeds(int times) {
        for (int i = 0; i < times; i++) {
            x.feed(0, 0, 0, 0, 0);
        }
    }

    final int law(String text) {
        return x.law(tell(text));
    }

    final int shape(String text) {
        return x.shape(tell(text));
    }

    final int summary(String text) {
        return x.summary(tell(text));
    }

    final int question(String text) {
        return x.question(tell(text));
    }

    /** Facts of unlike triples, rising, as many as are told. */
    final void fill(int facts) {
        for (int i = 0; i < facts; i++) {
            x.fact(i / 64 % 8, i / 8 % 8, i % 8, i % 100);
        }
    }

    /** As many facts, of whatever triples, in few calls: an object has 512. */
    final void draw(int facts) {
        for (int left = facts; left > 0; left -= 60) {
            x.draws(Math.min(left, 60));
        }
    }

    /** Five facts: (0,0,0) 10 and 40, (1,0,0) 20, (2,3,1) 30, (7,7,7) 5. */
    final void fiveFacts() {
        x.fact(0, 0, 0, 10);
        x.fact(1, 0, 0, 20);
        x.fact(2, 3, 1, 30);
        x.fact(0, 0, 0, 40);
        x.fact(7, 7, 7, 5);
    }

    static int nextX(int before) {
        return (25173 * before + 13849) % 65536;
    }

    /** Of all 256 bytes behind the beginning of a text only these can stand there; all others are fault 1, there. */
    final void onlyStand(ToIntFunction<String> call, String begin, String signs) {
        for (int sign = 0; sign < 256; sign++) {
            fresh();
            boolean wrongThere = call.applyAsInt(begin + (char) sign) == -1000 - begin.length();
            due(wrongThere, signs.indexOf(sign) < 0);
        }
    }

    /** A text that ends too early has fault 1 at its end; whole tells the lengths at which it does not. */
    final void endsTooEarly(ToIntFunction<String> call, String text, int... whole) {
        for (int length = 1; length <= text.length(); length++) {
            fresh();
            boolean isWhole = false;
            for (int one : whole) {
                isWhole |= one == length;
            }
            int answer = call.applyAsInt(text.substring(0, length));
            due(isWhole ? answer >= 0 : answer == -1000 - length, true);
        }
    }
}
