import java.util.ArrayList;
import java.util.List;
import java.util.function.Function;
import java.util.function.Supplier;

/**
 * The sentences on refused calls: "A call that throws changes nothing; of several exceptions the
 * one named first is thrown." Each call that is refused here is looked at for both.
 */
public final class RefusedBoundaryTests {
    private static final int A = Rings.A;
    private static final int LEAST = Integer.MIN_VALUE, GREATEST = Integer.MAX_VALUE;
    private static final int[] NO_NODES = {LEAST, -1, 8, GREATEST};

    private RefusedBoundaryTests() {
    }

    public static void main(String[] args) {
        all();
        Checks.end();
    }

    static void all() {
        noSuchNode();
        powerIsOff();
        firstNamed();
        Checks.sentence("Promises 2 to 21: nothing but the named exceptions, for any numbers in any state",
            RefusedBoundaryTests::nothingElse);
        Checks.sentence("Promises 2 to 21: nothing but the named exceptions, for any number of keys",
            RefusedBoundaryTests::anyNumberOfKeys);
    }

    private static void noSuchNode() {
        Checks.sentence("Promise 5: IndexOutOfBoundsException", () -> bounds((x, node) -> x.join(node, 1)));
        Checks.sentence("Promise 6: IndexOutOfBoundsException", () -> bounds((x, node) -> x.leave(node)));
        Checks.sentence("Promise 15: IndexOutOfBoundsException", () -> bounds((x, node) -> x.holds(node, A)));
        Checks.sentence("Promise 16: IndexOutOfBoundsException", () -> bounds((x, node) -> x.size(node)));
        Checks.sentence("Promise 17: IndexOutOfBoundsException: no such node", () -> bounds((x, node) -> x.key(node, 0)));
        Checks.sentence("Promise 18: IndexOutOfBoundsException", () -> bounds((x, node) -> x.points(node)));
        Checks.sentence("Promise 21: IndexOutOfBoundsException", () -> bounds((x, node) -> x.share(node)));
    }

    private interface OfNode {
        Object run(ShardRing x, int node);
    }

    /** Before every other exception, so in every state. */
    private static void bounds(OfNode call) {
        for (int node : NO_NODES) {
            for (Supplier<ShardRing> make : states()) {
                Checks.refused("node " + node, make, x -> call.run(x, node), Checks.BOUNDS);
            }
        }
    }

    private static List<Supplier<ShardRing>> states() {
        return List.of(
            () -> new ShardRing(8, 16),
            Rings::loaded,
            () -> Rings.told(Rings.loaded(), 1),
            () -> Rings.moving(4),
            () -> Rings.told(Rings.moving(1), 0),
            Rings::allGone,
            Rings::planOfNoKeys,
            () -> Rings.cut(Rings.loaded()),
            () -> Rings.cut(Rings.moving(4)));
    }

    private static void powerIsOff() {
        Checks.sentence("Promise 2: the power is off", () -> off(x -> x.put(A, 9)));
        Checks.sentence("Promise 3: the power is off", () -> off(x -> x.remove(A)));
        Checks.sentence("Promise 3: the power is off, also for a key that is not there", () -> off(x -> x.remove(77)));
        Checks.sentence("Promise 4: the power is off", () -> off(x -> x.get(A)));
        Checks.sentence("Promise 5: the power is off", () -> off(x -> x.join(3, 1)));
        Checks.sentence("Promise 6: the power is off", () -> off(x -> x.leave(1)));
        Checks.sentence("Promise 7: the power is off", () -> off(ShardRing::step));
        Checks.sentence("Promise 8: the power is off", () -> off(x -> Rings.fail(x, 3)));
        Checks.sentence("Promise 8: the power is off, also for NONE", () -> off(x -> Rings.fail(x, -1)));
        Checks.sentence("Promise 12: the power is off", () -> off(x -> x.owner(A)));
        Checks.sentence("Promise 13: the power is off", () -> off(x -> x.home(A)));
        Checks.sentence("Promise 14: the power is off", () -> off(x -> x.state(A)));
        Checks.sentence("Promise 18: the power is off", () -> off(x -> x.points(0)));
        Checks.sentence("Promise 19: the power is off", RefusedBoundaryTests::countOff);
        Checks.sentence("Promise 21: the power is off", () -> off(x -> x.share(0)));
    }

    private static void off(Function<ShardRing, Object> call) {
        Checks.refused("without a plan", () -> Rings.cut(Rings.loaded()), call, Checks.STATE);
        Checks.refused("with NEW keys", () -> Rings.cut(Rings.moving(0)), call, Checks.STATE);
        Checks.refused("with a COPIED and a GONE key", () -> Rings.cut(Rings.moving(4)), call, Checks.STATE);
        Checks.refused("with a plan of no keys", () -> Rings.cut(Rings.planOfNoKeys()), call, Checks.STATE);
    }

    private static void countOff() {
        for (int what = 0; what < 3; what++) {
            int w = what;
            off(x -> x.count(w));
        }
    }

    private static void firstNamed() {
        Checks.sentence("Promise 2: refused for 256 other keys, nothing changes", () ->
            Checks.refused("the 257th", Rings::full, x -> x.put(LEAST, 1), Checks.STATE));
        Checks.sentence("Promise 4: IllegalStateException before NoSuchElementException", () -> off(x -> x.get(77)));
        Checks.sentence("Promise 5: it is a member", RefusedBoundaryTests::joinOfAMember);
        Checks.sentence("Promise 5: IndexOutOfBoundsException before IllegalArgumentException", () ->
            bounds((x, node) -> x.join(node, node)));
        Checks.sentence("Promise 5: IllegalArgumentException before IllegalStateException", RefusedBoundaryTests::joinArgumentFirst);
        Checks.sentence("Promise 8: IllegalArgumentException before IllegalStateException", () ->
            Checks.refused("off", () -> Rings.cut(Rings.moving(1)), x -> Rings.fail(x, -2), Checks.ARGUMENT));
        Checks.sentence("Promise 17: not so many, without power", () ->
            Checks.refused("off", () -> Rings.cut(Rings.moving(1)), x -> x.key(2, 1), Checks.BOUNDS));
        Checks.sentence("Promise 19: IllegalArgumentException before IllegalStateException", RefusedBoundaryTests::countArgumentFirst);
    }

    private static void joinOfAMember() {
        Checks.refused("with as many points", Rings::loaded, x -> x.join(1, 1), Checks.STATE);
        Checks.refused("with more points", Rings::loaded, x -> x.join(0, 16), Checks.STATE);
        Checks.refused("that is the only one", Rings::onlyOne, x -> x.join(0, 2), Checks.STATE);
        Checks.refused("when told to fail", () -> Rings.told(Rings.loaded(), 0), x -> x.join(1, 1), Checks.STATE);
    }

    private static void joinArgumentFirst() {
        for (int points : new int[] {0, 17}) {
            Checks.refused("a member", Rings::loaded, x -> x.join(1, points), Checks.ARGUMENT);
            Checks.refused("a plan", () -> Rings.moving(1), x -> x.join(3, points), Checks.ARGUMENT);
            Checks.refused("off", () -> Rings.cut(Rings.loaded()), x -> x.join(3, points), Checks.ARGUMENT);
        }
    }

    private static void countArgumentFirst() {
        for (int what : new int[] {LEAST, -1, 3, GREATEST}) {
            Checks.refused("off", () -> Rings.cut(Rings.moving(1)), x -> x.count(what), Checks.ARGUMENT);
        }
    }

    /** Each call with numbers at all edges: what it throws is one of those that the document names for it. */
    private static void nothingElse() {
        int[] numbers = {LEAST, LEAST + 1, -9, -2, -1, 0, 1, 2, 7, 8, 15, 16, 17, 255, 256, GREATEST - 1, GREATEST};
        for (Supplier<ShardRing> make : states()) {
            for (int a : numbers) {
                for (int b : numbers) {
                    anyNumbers(make.get(), a, b);
                }
            }
        }
    }

    private static void anyNumbers(ShardRing x, int a, int b) {
        only("put", () -> x.put(a, b), Checks.STATE);
        only("get", () -> x.get(a), Checks.STATE, Checks.MISSING);
        only("join", () -> x.join(a, b), Checks.BOUNDS, Checks.ARGUMENT, Checks.STATE);
        only("owner", () -> x.owner(a), Checks.STATE);
        only("home", () -> x.home(a), Checks.STATE);
        only("state", () -> x.state(a), Checks.STATE);
        only("step", x::step, Checks.STATE);
        only("holds", () -> x.holds(a, b), Checks.BOUNDS);
        only("size", () -> x.size(a), Checks.BOUNDS);
        only("key", () -> x.key(a, b), Checks.BOUNDS);
        only("points", () -> x.points(a), Checks.BOUNDS, Checks.STATE);
        only("count", () -> x.count(a), Checks.ARGUMENT, Checks.STATE);
        only("share", () -> x.share(a), Checks.BOUNDS, Checks.STATE);
        only("place", () -> x.place((long) a << 32 | b));
        only("written", () -> x.written(a > b));
        only("leave", () -> x.leave(b), Checks.BOUNDS, Checks.STATE);
        only("remove", () -> x.remove(a), Checks.STATE);
        only("fail", () -> Rings.fail(x, b), Checks.ARGUMENT, Checks.STATE);
        only("put", () -> x.put(b, a), Checks.STATE);
        only("recover", x::recover, Checks.STATE);
        only("step", x::step, Checks.STATE);
        only("off", x::off);
    }

    /** Whatever rows the class has, at some of these numbers they are just full. */
    private static void anyNumberOfKeys() {
        for (int keys = 1; keys <= 256; keys++) {
            ShardRing x = new ShardRing(1, 1);
            int last = Rings.putBetween(x, keys);
            int n = keys;
            Checks.due("holds, behind the last of " + n, () -> x.holds(0, GREATEST), false);
            Checks.due("get, behind the last of " + n, () -> x.get(GREATEST), Checks.MISSING);
            Checks.due("remove, behind the last of " + n, () -> x.remove(GREATEST), 0);
            Checks.due("key, behind the last of " + n, () -> x.key(0, n), Checks.BOUNDS);
            Checks.due("key, the last of " + n, () -> x.key(0, n - 1), last);
            Checks.due("join with " + n, () -> x.join(1, 1), n);
            Checks.due("state, behind the last of " + n, () -> x.state(GREATEST), ShardRing.OTHER);
            Checks.due("state, the last of " + n, () -> x.state(last), ShardRing.NEW);
            Checks.due("home, behind the last of " + n, () -> x.home(GREATEST), x.owner(GREATEST));
            Checks.due("step with " + n, x::step, ShardRing.COPIED);
        }
    }

    private static void only(String what, Checks.Call call, Class<?>... named) {
        Object got = Checks.answer(call);
        List<Class<?>> due = new ArrayList<>(List.of(named));
        Checks.due(what + " throws only " + due + ", not " + got, () -> !(got instanceof Class) || due.contains(got), true);
    }
}
