import java.util.ArrayList;
import java.util.List;

/**
 * Small rings for the boundary tests. With one point each node 0 has its point at place 52752509,
 * node 2 at 1525290039, node 1 at 1862763098; the keys were searched so that their places lie at
 * these points or beside them.
 */
final class Rings {
    /** Places 1525290038, 1525290039, 52752510: node 1 owns them in a ring of 0 and 1; with node 2, that one. */
    static final int A = -2108339683, B = -272027779, C = 1998364718;
    /** Place 1525290040: node 1 owns it with and without node 2. */
    static final int D = 865461552;
    /** Places 0 and 52752509: node 0 owns them. */
    static final int E = 0, F = -1404930941;
    /** Places 1862763098 and 1862763099, at node 1's point and behind it, where node 0 is next. */
    static final int G = -1405930948, H = 864461551;
    /** Place 1525290039 like B: node 2's when that is a member, and in no ring from the start. */
    static final int LATE = 1566870284;
    /** The greatest place of all, 2147483647. */
    static final int LAST = -541469395;

    private static final int[] KEYS = {A, B, C, D, E, F, LATE, 77};
    private static final int MOST_LISTED = 12;

    private Rings() {
    }

    /** Nodes 0 and 1 with a point each; A, B, C, D at node 1 with values 1 .. 4, E at node 0 with 5. */
    static ShardRing loaded() {
        ShardRing x = new ShardRing(2, 1);
        x.put(C, 3);
        x.put(A, 1);
        x.put(D, 4);
        x.put(B, 2);
        x.put(E, 5);
        return x;
    }

    /** As loaded, and node 2 has joined, so A, B, C go from 1 to 2; so many steps are done. */
    static ShardRing moving(int steps) {
        ShardRing x = loaded();
        x.join(2, 1);
        steps(x, steps);
        return x;
    }

    static ShardRing allGone() {
        return moving(9);
    }

    static ShardRing planOfNoKeys() {
        ShardRing x = new ShardRing(2, 1);
        x.join(2, 1);
        return x;
    }

    static ShardRing onlyOne() {
        ShardRing x = new ShardRing(1, 1);
        x.put(A, 1);
        x.put(E, 5);
        return x;
    }

    static ShardRing full() {
        ShardRing x = new ShardRing(2, 1);
        for (int i = 0; i < 256; i++) {
            x.put(manyKey(i), i);
        }
        return x;
    }

    /** The i-th of many keys, in ascending order. */
    static int manyKey(int i) {
        return 31 * i - 4000;
    }

    /** Puts so many keys whose places lie between the point of node 0 and that of node 1; the last of them. */
    static int putBetween(ShardRing x, int keys) {
        int done = 0;
        int key = 0;
        while (done < keys) {
            key++;
            int place = (int) (((long) key * -7046029254386353131L) >>> 33);
            if (place > 52752509 && place <= 1862763098) {
                x.put(key, key);
                done++;
            }
        }
        return key;
    }

    /** So many writes more are done, then the power fails. */
    static ShardRing told(ShardRing x, int n) {
        x.fail(n);
        return x;
    }

    /** The power is off, and nothing else is other than before. */
    static ShardRing cut(ShardRing x) {
        x.fail(0);
        x.put(E, 5);
        return x;
    }

    static ShardRing restarted(ShardRing x) {
        cut(x).recover();
        return x;
    }

    static void steps(ShardRing x, int steps) {
        for (int i = 0; i < steps; i++) {
            x.step();
        }
    }

    /** So many keys as a plan has are moved, and the plan ends. */
    static void finish(ShardRing x, int keys) {
        steps(x, 3 * keys + 1);
    }

    static Object fail(ShardRing x, int n) {
        x.fail(n);
        return "told";
    }

    static List<Boolean> holders(ShardRing x, int key) {
        List<Boolean> held = new ArrayList<>();
        for (int node = 0; node < 8; node++) {
            held.add(x.holds(node, key));
        }
        return held;
    }

    /** All that can be seen of an object, also what it was told to fail and what it has written. */
    static List<Object> seen(ShardRing x) {
        List<Object> all = new ArrayList<>();
        look(x, all);
        for (int i = 0; i < 3; i++) {
            all.add(Checks.answer(() -> x.put(E, 6)));
        }
        if (x.off()) {
            all.add(Checks.answer(x::recover));
        }
        look(x, all);
        return all;
    }

    private static void look(ShardRing x, List<Object> all) {
        all.add(x.off());
        all.add(x.written(false));
        all.add(x.written(true));
        for (int what = 0; what < 3; what++) {
            int w = what;
            all.add(Checks.answer(() -> x.count(w)));
        }
        for (int node = 0; node < 8; node++) {
            int n = node;
            all.add(Checks.answer(() -> x.points(n)));
            all.add(Checks.answer(() -> x.share(n)));
            int size = x.size(n);
            all.add(size);
            for (int i = 0; i < size && i < MOST_LISTED; i++) {
                all.add(x.key(n, i));
            }
        }
        for (int key : KEYS) {
            all.add(Checks.answer(() -> x.get(key)));
            all.add(Checks.answer(() -> x.home(key)));
            all.add(Checks.answer(() -> x.state(key)));
        }
    }
}
