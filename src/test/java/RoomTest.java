import com.sun.management.ThreadMXBean;
import java.lang.management.ManagementFactory;
import java.lang.reflect.Array;
import java.lang.reflect.Field;
import java.lang.reflect.Modifier;
import java.util.IdentityHashMap;

/** All calls of a run live in one room: a new object stays small, and its calls make nothing. */
public final class RoomTest {
    private static final int OBJECTS = 150;
    private static final int ELEMENTS = 12000;
    /** Of some six thousand calls: far less than one object each, but room for what the machine may do by itself. */
    private static final long BYTES = 4096;
    private static int objects = 0;
    private static int elements = 0;

    private RoomTest() {
    }

    public static void main(String[] args) throws Exception {
        KeptSummaries one = new KeptSummaries();
        walk(one, new IdentityHashMap<>());
        System.out.println("a new object: " + objects + " objects and arrays, " + elements + " fields and elements");
        boolean small = objects <= OBJECTS && elements <= ELEMENTS;
        long made = madeByCalls();
        System.out.println("its calls made " + made + " bytes");
        System.exit(small && made <= BYTES ? 0 : 1);
    }

    private static void walk(Object thing, IdentityHashMap<Object, Object> seen) throws Exception {
        if (thing == null || seen.put(thing, thing) != null) {
            return;
        }
        objects++;
        if (thing.getClass().isArray()) {
            elements += Array.getLength(thing);
            for (int i = 0; i < Array.getLength(thing) && !thing.getClass().getComponentType().isPrimitive(); i++) {
                walk(Array.get(thing, i), seen);
            }
            return;
        }
        for (Field field : thing.getClass().getDeclaredFields()) {
            if (!Modifier.isStatic(field.getModifiers())) {
                elements++;
                field.setAccessible(true);
                if (!field.getType().isPrimitive()) {
                    walk(field.get(thing), seen);
                }
            }
        }
    }

    /** The first rounds load classes; only the last one is measured. */
    private static long madeByCalls() {
        ThreadMXBean bean = (ThreadMXBean) ManagementFactory.getThreadMXBean();
        long thread = Thread.currentThread().getId();
        int[][] texts = {Texts.words("m[a+b]*2(!a=1&w>3);u0(n>1);x(m/c=7)"), Texts.words("010:scnx;a1=0-2"),
            Texts.words("v:112;a1=0-2"), Texts.words("d:012"), Texts.words("a0=1;b3=2")};
        int[] lengths = {35, 15, 12, 5, 9};
        long made = 0;
        for (int round = 0; round < 3; round++) {
            KeptSummaries one = new KeptSummaries();
            long before = bean.getThreadAllocatedBytes(thread);
            for (int i = 0; i < 40; i++) {
                calls(one, texts, lengths, i);
            }
            made = bean.getThreadAllocatedBytes(thread) - before;
        }
        return made;
    }

    private static void calls(KeptSummaries one, int[][] texts, int[] lengths, int i) {
        for (int t = 0; t < 5; t++) {
            int[] w = texts[t];
            for (int j = 0; j < w.length; j += 5) {
                one.feed(w[j], w[j + 1], w[j + 2], w[j + 3], w[j + 4]);
            }
            switch (t) {
                case 0 -> one.law(lengths[t]);
                case 1 -> one.summary(lengths[t]);
                case 2, 3 -> one.question(lengths[t]);
                default -> {
                    if (i % 16 == 15) {
                        one.shape(lengths[t]);
                    }
                }
            }
            one.check(0);
            one.fact(i % 8, t, 3, i);
            one.draws(2);
            for (int g = 0; g < 4; g++) {
                one.answer(g, 3);
                one.ranked(g, 3);
                one.answerBy(0, g, 3);
                one.group(0, g, 3);
                one.coverIs(0, g);
            }
            one.unlike(0);
            one.madeOf(0);
            one.way(1);
        }
        one.keep();
        one.undo();
        one.renew(0);
        one.price(i);
        one.greedy(6, 0);
        one.best(2, 0);
        if (i % 4 == 3) {
            one.drop(0);
        }
    }
}
