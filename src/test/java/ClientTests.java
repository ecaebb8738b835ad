import java.util.HashMap;
import java.util.Map;
import java.util.Random;

/**
 * Runs of calls, the same each time, as somebody sees them who uses the face alone: a map has what
 * was put, and all else that is due is worked out from answers of the object itself. So nothing
 * here leans on how a plan is held, neither in the class nor in the model of ModelTests.
 */
public final class ClientTests {
    private static final int RUNS = 3000;
    private static final int MOST_CALLS = 512;
    private static final int NODES = 8;
    private static final int NOT_THERE = -1;

    private static int wrong;
    private static long looks;

    private final int run;
    private final Random random;
    private final int[] keys;
    private final Counted ring;
    private final Map<Integer, Integer> put = new HashMap<>();

    /** The object, and how many calls it has had. */
    private static final class Counted {
        private final ShardRing object;
        private int calls;

        Counted(ShardRing object) {
            this.object = object;
        }

        ShardRing call() {
            calls++;
            return object;
        }
    }

    private ClientTests(int run) {
        this.run = run;
        random = new Random(run);
        keys = random.ints(1 + random.nextInt(9)).toArray();
        ring = new Counted(new ShardRing(1 + random.nextInt(4), 1 + random.nextInt(5)));
    }

    public static void main(String[] args) {
        for (int run = 0; run < RUNS && wrong < 20; run++) {
            new ClientTests(run).all();
        }
        System.out.println(looks + " looks, " + wrong + " wrong");
        if (wrong != 0 || looks == 0) {
            System.exit(1);
        }
    }

    private void all() {
        // The end of a run needs calls too: the steps of the plan and a look at every store.
        while (ring.calls < MOST_CALLS - 200) {
            someCall();
        }
        finish();
        everyKeyAtItsOwnerOnly();
        due("what it is: at most 512 calls", ring.calls <= MOST_CALLS, true);
    }

    private void someCall() {
        int what = random.nextInt(20);
        int key = keys[random.nextInt(keys.length)];
        int node = random.nextInt(NODES);
        if (what < 4) {
            putOne(key, random.nextInt(100));
        } else if (what < 6) {
            removeOne(key);
        } else if (what < 8) {
            change(node);
        } else if (what < 15) {
            stepOne();
        } else if (what == 15 && run % 3 != 0) {
            ring.call().fail(random.nextInt(6));
        } else {
            look(key);
        }
        if (ring.call().off()) {
            ring.call().recover();
        }
    }

    private void putOne(int key, int value) {
        int due = ring.call().state(key) == ShardRing.COPIED ? 2 : 1;
        int before = ring.call().written(false);
        int records = ring.call().written(true);
        int answer = ring.call().put(key, value);
        int writes = ring.call().written(false) - before;
        due("promise 20: records of a put", ring.call().written(true), records);
        if (answer == ShardRing.FAILED) {
            due("promise 2: writes of a put that failed", writes < due, true);
        } else {
            due("promise 2: writes of a put", writes, due);
            due("promise 2: put", answer, put.containsKey(key) ? 0 : 1);
        }
        // The first write is the home's: from there on the key has the value.
        if (writes > 0) {
            put.put(key, value);
        }
    }

    private void removeOne(int key) {
        boolean was = put.containsKey(key);
        int due = !was ? 0 : ring.call().state(key) == ShardRing.COPIED ? 2 : 1;
        int before = ring.call().written(false);
        int answer = ring.call().remove(key);
        int writes = ring.call().written(false) - before;
        if (answer == ShardRing.FAILED) {
            due("promise 3: writes of a remove that failed", writes < due, true);
        } else {
            due("promise 3: writes of a remove", writes, due);
            due("promise 3: remove", answer, was ? 1 : 0);
        }
        if (writes > 0) {
            put.remove(key);
        }
    }

    private void change(int node) {
        if (ring.call().count(1) != ShardRing.NONE) {
            return;
        }
        Map<Integer, Integer> owners = owners();
        boolean member = ring.call().points(node) > 0;
        if (member && ring.call().share(node) == 1L << 31) {
            return;
        }
        int records = ring.call().written(true);
        int answer = member ? ring.call().leave(node) : ring.call().join(node, 1 + random.nextInt(16));
        boolean done = answer != ShardRing.FAILED;
        due("promises 5, 6: a record", ring.call().written(true) - records, done ? 1 : 0);
        if (!done) {
            due("promise 9: no plan", ring.call().recover(), ShardRing.NONE);
            due("promises 5, 6: members as before", ring.call().points(node) > 0, member);
            due("promises 5, 6: owners as before", owners(), owners);
            return;
        }
        int moves = 0;
        for (int key : put.keySet()) {
            boolean moved = ring.call().owner(key) != owners.get(key);
            moves += moved ? 1 : 0;
            due("promise 14: in the plan", ring.call().state(key), moved ? ShardRing.NEW : ShardRing.OTHER);
            due("promise 13: home", ring.call().home(key), owners.get(key));
        }
        due("promises 5, 6: how many keys the plan has", answer, moves);
        sharesTogether();
    }

    private Map<Integer, Integer> owners() {
        Map<Integer, Integer> owners = new HashMap<>();
        for (int key : put.keySet()) {
            owners.put(key, ring.call().owner(key));
        }
        return owners;
    }

    private void sharesTogether() {
        long sum = 0;
        for (int node = 0; node < NODES; node++) {
            long share = ring.call().share(node);
            due("promises 18, 21: who has a share has points", share > 0, ring.call().points(node) > 0);
            sum += share;
        }
        due("promise 21: the shares together", sum, 1L << 31);
    }

    private void stepOne() {
        int left = ring.call().count(1);
        if (left == ShardRing.NONE) {
            return;
        }
        int flipped = ring.call().count(2);
        int before = ring.call().written(false);
        int records = ring.call().written(true);
        int answer = ring.call().step();
        boolean done = answer != ShardRing.FAILED;
        boolean record = answer == ShardRing.FLIPPED || answer == ShardRing.OTHER;
        due("promise 7: a write", ring.call().written(false) - before, done ? 1 : 0);
        due("promise 7: a record", ring.call().written(true) - records, record ? 1 : 0);
        if (!done) {
            due("promise 9: NEW keys", ring.call().recover(), left - flipped);
            due("promise 19: FLIPPED keys", ring.call().count(2) >= flipped, true);
            return;
        }
        due("promise 7: the plan ends when all are GONE", answer == ShardRing.OTHER, left == 0);
        due("promise 19: not GONE", ring.call().count(1),
            answer == ShardRing.OTHER ? ShardRing.NONE : answer == ShardRing.GONE ? left - 1 : left);
        due("promise 19: FLIPPED", ring.call().count(2), answer == ShardRing.OTHER ? ShardRing.NONE
            : answer == ShardRing.FLIPPED ? flipped + 1 : answer == ShardRing.GONE ? flipped - 1 : flipped);
    }

    private void look(int key) {
        due("promise 19: keys", ring.call().count(0), put.size());
        due("promise 4: get", get(key), put.getOrDefault(key, NOT_THERE));
        int home = ring.call().home(key);
        due("promise 15: at home", ring.call().holds(home, key), put.containsKey(key));
    }

    /** The values here are never below 0. */
    private int get(int key) {
        try {
            return ring.call().get(key);
        } catch (java.util.NoSuchElementException e) {
            return NOT_THERE;
        }
    }

    private void finish() {
        ring.call().fail(ShardRing.NONE);
        int left = ring.call().count(1);
        for (int i = 0; i <= 3 * left && ring.call().count(1) != ShardRing.NONE; i++) {
            ring.call().step();
        }
        due("promise 7: three steps a key and one", ring.call().count(1), ShardRing.NONE);
    }

    private void everyKeyAtItsOwnerOnly() {
        int held = 0;
        for (int node = 0; node < NODES; node++) {
            int size = ring.call().size(node);
            long last = Long.MIN_VALUE;
            for (int i = 0; i < size; i++) {
                int key = ring.call().key(node, i);
                due("promise 17: ascending", key > last, true);
                due("promise 12: at its owner", ring.call().owner(key), node);
                due("promise 4: its value", get(key), put.getOrDefault(key, NOT_THERE));
                last = key;
            }
            held += size;
        }
        due("promise 16: keys in all stores", held, put.size());
        due("promise 19: keys", ring.call().count(0), put.size());
    }

    private void due(String what, Object got, Object want) {
        looks++;
        if (!got.equals(want)) {
            wrong++;
            System.out.println("run " + run + ", call " + ring.calls + ", " + what + ": " + got + ", due is " + want);
        }
    }
}
