import java.util.LinkedHashSet;
import java.util.Set;
import java.util.function.Function;
import java.util.function.Supplier;

/** What the boundary tests share: one test for each sentence, and what it finds wrong. */
final class Checks {
    static final Class<? extends RuntimeException> BOUNDS = IndexOutOfBoundsException.class;
    static final Class<? extends RuntimeException> ARGUMENT = IllegalArgumentException.class;
    static final Class<? extends RuntimeException> STATE = IllegalStateException.class;
    static final Class<? extends RuntimeException> MISSING = java.util.NoSuchElementException.class;

    private static final Set<String> SENTENCES = new LinkedHashSet<>();
    private static final Set<String> BROKEN = new LinkedHashSet<>();
    private static String sentence;
    private static int calls;

    private Checks() {
    }

    interface Call {
        Object run();
    }

    /** The test of one sentence, told with the promise that it belongs to. */
    static void sentence(String text, Runnable test) {
        sentence = text;
        if (!SENTENCES.add(text)) {
            wrong("stands twice");
        }
        int before = calls;
        try {
            test.run();
        } catch (RuntimeException e) {
            wrong("threw " + e);
        }
        if (calls == before) {
            wrong("looks at nothing");
        }
    }

    static void due(String what, Call call, Object want) {
        calls++;
        Object got = answer(call);
        if (!got.equals(want)) {
            wrong(what + " answered " + got + ", due is " + want);
        }
    }

    /** The call throws just this, and the object then is as one on which it was not called. */
    static void refused(String what, Supplier<ShardRing> make, Function<ShardRing, Object> call, Class<?> due) {
        ShardRing refusing = make.get();
        due(what, () -> call.apply(refusing), due);
        due(what + ", all there is to see then", () -> Rings.seen(refusing), Rings.seen(make.get()));
    }

    /** What a call answers; the class of what it throws. */
    static Object answer(Call call) {
        try {
            return call.run();
        } catch (RuntimeException e) {
            return e.getClass();
        }
    }

    static Set<String> sentences() {
        return SENTENCES;
    }

    static Set<String> broken() {
        return BROKEN;
    }

    static void end() {
        System.out.println(SENTENCES.size() + " sentences, " + calls + " answers, " + BROKEN.size() + " broken");
        if (!BROKEN.isEmpty() || SENTENCES.isEmpty()) {
            System.exit(1);
        }
    }

    private static void wrong(String what) {
        BROKEN.add(sentence);
        System.out.println(sentence + " -- " + what);
    }
}
