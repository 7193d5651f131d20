import java.util.ArrayList;
import java.util.List;
import java.util.function.Consumer;
import java.util.function.ToIntFunction;

/** That a refused call changes nothing: what an object answers behind it is what one answers that was not asked so. */
final class RefusalSentences extends Sentences {
    private static final int[] FAR = {-1, -2, 8, 134217728, Integer.MIN_VALUE, Integer.MAX_VALUE};
    private final List<ToIntFunction<KeptSummaries>> calls = new ArrayList<>();

    RefusalSentences(Document document) {
        super(document);
        everywhere();
        texts();
        asking();
        lattice();
    }

    @Override
    void all() {
        part("A call that is refused", "The constants:");
        said("A call that is refused (NONE, false) changes nothing but the tape, where it is told.", () -> {
            refusedIn(this::tellNothing);
            refusedIn(this::tellSome);
            refusedIn(this::tellAll);
        });
        said("A call that is refused (NONE, false) changes nothing but the tape, where it is told.", this::refusedByState);
    }

    private void tellNothing(KeptSummaries to) {
        x = to;
    }

    private void tellSome(KeptSummaries to) {
        x = to;
        shape("a0=3;b7=0");
        fiveFacts();
        summary("000:sc");
        summary("111:scnx;a0=0-3");
        x.keep();
        x.seed(4711);
        x.fact(1, 2, 3, 4);
        summary("012:n");
        x.drop(0);
        law("x(a=6);m7(b=5);u0(c=5)");
        question("v:022;b0=0-6");
        tell("s:022;a0=0-6;c1=0-2");
    }

    private void tellAll(KeptSummaries to) {
        x = to;
        draw(200);
        for (int i = 0; i < 8; i++) {
            summary("0" + i % 3 + "2:sc");
        }
        x.keep();
        draw(40);
        question("s:012");
        feeds(13);
    }

    private void refusedIn(Consumer<KeptSummaries> state) {
        KeptSummaries untouched = new KeptSummaries();
        state.accept(untouched);
        List<Integer> wants = allOf(untouched);
        for (ToIntFunction<KeptSummaries> call : calls) {
            KeptSummaries refusing = new KeptSummaries();
            state.accept(refusing);
            due(call.applyAsInt(refusing), -1);
            due(allOf(refusing).equals(wants), true);
        }
    }

    /** Those that are refused for what there is, not for their arguments. */
    private void refusedByState() {
        KeptSummaries full = new KeptSummaries();
        tellAll(full);
        List<Integer> wants = allOf(full);
        full = new KeptSummaries();
        tellAll(full);
        due(full.feed(1, 2, 3, 4, 5), -1);
        due(full.fact(0, 0, 0, 0), -3);
        due(full.draws(60), 0);
        due(full.check(241), -2);
        due(allOf(full).equals(wants), true);
        KeptSummaries none = new KeptSummaries();
        wants = allOf(none);
        none = new KeptSummaries();
        due(none.undo(), false);
        due(none.law(1), -1);
        due(none.shape(1), -1);
        due(none.summary(1), -1);
        due(none.question(1), -1);
        due(none.check(1), -2);
        due(none.answer(0, 0), -2);
        due(none.way(0), -2);
        due(none.questionIs(0), -2);
        due(allOf(none).equals(wants), true);
    }

    private static int refused(boolean taken) {
        return taken ? 1 : -1;
    }

    private void everywhere() {
        for (int not : FAR) {
            calls.add(o -> o.fact(not, 0, 0, 0));
            calls.add(o -> o.fact(0, not, 0, 0));
            calls.add(o -> o.fact(0, 0, not, 0));
            calls.add(o -> o.draws(not == 8 ? 0 : not));
            calls.add(o -> o.renew(not));
            calls.add(o -> refused(o.drop(not)));
            calls.add(o -> o.coarse(not, 0));
            calls.add(o -> o.coarse(0, not));
            calls.add(o -> o.factIs(not == 8 ? 240 : not, 0));
            calls.add(o -> o.factIs(0, not));
            calls.add(o -> refused(o.seed(not == 8 ? 65536 : not)));
            calls.add(o -> o.count(not));
        }
        calls.add(o -> o.fact(0, 0, 0, -1));
        calls.add(o -> o.fact(0, 0, 0, 100));
        calls.add(o -> o.draws(61));
    }

    private void texts() {
        for (int not : new int[] {0, -1, 241, 260, 261, Integer.MIN_VALUE, Integer.MAX_VALUE}) {
            calls.add(o -> o.law(not));
            calls.add(o -> o.shape(not == 241 ? 61 : not));
            calls.add(o -> o.summary(not == 241 ? 81 : not));
            calls.add(o -> o.question(not == 241 ? 81 : not));
        }
    }

    private void asking() {
        for (int not : FAR) {
            calls.add(o -> o.summaryIs(not, 0));
            calls.add(o -> o.summaryIs(0, not));
            calls.add(o -> o.group(not, 0, 0));
            calls.add(o -> o.group(0, 0, not));
            calls.add(o -> o.questionIs(not));
            calls.add(o -> o.covers(not));
            calls.add(o -> o.coverIs(not, 0));
            calls.add(o -> o.coverIs(0, not));
            calls.add(o -> o.way(not));
            calls.add(o -> o.answer(0, not));
            calls.add(o -> o.ranked(0, not));
            calls.add(o -> o.answerBy(not, 0, 0));
            calls.add(o -> o.answerBy(-3, 0, not));
            calls.add(o -> o.unlike(not));
            calls.add(o -> o.madeOf(not));
        }
        calls.add(o -> o.group(0, -1, 0));
        calls.add(o -> o.answer(-1, 0));
        calls.add(o -> o.ranked(-1, 0));
        calls.add(o -> o.answerBy(-3, -1, 0));
    }

    private void lattice() {
        for (int not : new int[] {-1, 27, 134217728, Integer.MIN_VALUE, Integer.MAX_VALUE}) {
            calls.add(o -> o.node(not));
            calls.add(o -> o.below(not, 0));
            calls.add(o -> o.below(0, not));
            calls.add(o -> o.price(not == 27 ? -27 : not));
            calls.add(o -> o.greedy(not, 0));
            calls.add(o -> o.greedy(1, not));
            calls.add(o -> o.best(not, 0));
            calls.add(o -> o.best(1, not));
        }
    }

    /** All that shows of an object: also its law, its tape and what is kept, by calls that change it. */
    private static List<Integer> allOf(KeptSummaries o) {
        List<Integer> all = new ArrayList<>();
        shown(o, all);
        int told = o.fact(1, 5, 5, 1);
        all.add(told);
        all.add(o.factIs(told, 3));
        all.add(o.fact(6, 0, 0, 1));
        all.add(o.summaryIs(0, 4));
        all.add(o.question(20));
        all.add(o.questionIs(10));
        all.add(o.questionIs(12));
        all.add(o.undo() ? 1 : 0);
        shown(o, all);
        return all;
    }

    private static void shown(KeptSummaries o, List<Integer> all) {
        for (int i = 0; i < 24; i++) {
            all.add(o.coarse(i / 8, i % 8));
        }
        for (int what = 0; what < 6; what++) {
            all.add(o.count(what));
        }
        for (int what = 0; what < 13; what++) {
            all.add(o.questionIs(what));
            all.add(o.summaryIs(0, what));
        }
        for (int i = 0; i < 8; i++) {
            all.add(o.summaryIs(i, 1));
            all.add(o.summaryIs(i, 3));
            all.add(o.summaryIs(i, 6));
            all.add(o.group(i, 1, 3));
            all.add(o.answer(i, 3));
        }
        for (int f : new int[] {0, 4, 5, 239}) {
            all.add(o.factIs(f, 0));
            all.add(o.factIs(f, 3));
        }
        all.add(o.price(5));
    }
}
