import java.util.ArrayList;
import java.util.List;
import java.util.NoSuchElementException;
import java.util.TreeMap;
import java.util.TreeSet;

/**
 * Runs of calls, the same each time, on the class and on a model that follows the document's words
 * without any thought of speed: its log has records, and recovery reads them from the first on.
 */
public final class ModelTests {
    private static final int RUNS = 6000;
    private static final int MOST_CALLS = 512;

    private static final class Record {
        final int[] points;
        final TreeMap<Integer, int[]> moves;
        final Integer flippedKey;

        Record(int[] points, TreeMap<Integer, int[]> moves, Integer flippedKey) {
            this.points = points;
            this.moves = moves;
            this.flippedKey = flippedKey;
        }
    }

    private static final class PowerFailure extends RuntimeException {
        private static final long serialVersionUID = 1;
    }

    private static final class Model {
        final int[] firstPoints = new int[8];
        final List<TreeMap<Integer, Integer>> stores = new ArrayList<>();
        final List<Record> log = new ArrayList<>();
        int writes;
        int failIn = -1;
        boolean off;
        int[] points;
        /** Of each key: source, target, state. */
        TreeMap<Integer, int[]> plan;

        Model(int nodes, int each) {
            for (int n = 0; n < 8; n++) {
                stores.add(new TreeMap<>());
                boolean member = n == 0 || n < nodes;
                firstPoints[n] = !member ? 0 : each < 1 ? 1 : each > 16 ? 16 : each;
            }
            points = firstPoints.clone();
        }

        static int place(long x) {
            long y = (x ^ (x >>> 29)) * -7046029254386353131L;
            return (int) (y >>> 33);
        }

        static int owner(int key, int[] points) {
            long best = Long.MAX_VALUE;
            int node = -1;
            for (int n = 0; n < 8; n++) {
                for (int v = 0; v < points[n]; v++) {
                    long ahead = place(1000003L * n + v + (1L << 40)) - (long) place(key);
                    ahead = ahead < 0 ? ahead + (1L << 31) : ahead;
                    if (ahead < best) {
                        best = ahead;
                        node = n;
                    }
                }
            }
            return node;
        }

        int state(int key) {
            return plan != null && plan.containsKey(key) ? plan.get(key)[2] : 0;
        }

        int home(int key) {
            int state = state(key);
            return state == 1 || state == 2 ? plan.get(key)[0] : owner(key, points);
        }

        boolean isThere(int key) {
            return stores.get(home(key)).containsKey(key);
        }

        TreeSet<Integer> keysThere() {
            TreeSet<Integer> all = new TreeSet<>();
            for (TreeMap<Integer, Integer> store : stores) {
                all.addAll(store.keySet());
            }
            all.removeIf(key -> !isThere(key));
            return all;
        }

        void beforeWrite() {
            if (failIn == 0) {
                off = true;
                throw new PowerFailure();
            }
            failIn = failIn > 0 ? failIn - 1 : failIn;
            writes++;
        }

        void write(int node, int key, Integer value) {
            beforeWrite();
            if (value == null) {
                stores.get(node).remove(key);
            } else {
                stores.get(node).put(key, value);
            }
        }

        void write(Record record) {
            beforeWrite();
            log.add(record);
        }

        void writeHomeAndTarget(int key, Integer value) {
            int state = state(key);
            write(home(key), key, value);
            if (state == 2) {
                write(plan.get(key)[1], key, value);
            }
        }

        void need(boolean state) {
            if (!state) {
                throw new IllegalStateException();
            }
        }

        void needNode(int node) {
            if (node < 0 || node > 7) {
                throw new IndexOutOfBoundsException();
            }
        }

        long put(int key, int value) {
            need(!off);
            TreeSet<Integer> others = keysThere();
            boolean was = others.remove(key);
            need(others.size() < 256);
            writeHomeAndTarget(key, value);
            return was ? 0 : 1;
        }

        long remove(int key) {
            need(!off);
            if (!isThere(key)) {
                return 0;
            }
            writeHomeAndTarget(key, null);
            return 1;
        }

        long get(int key) {
            need(!off);
            if (!isThere(key)) {
                throw new NoSuchElementException();
            }
            return stores.get(home(key)).get(key);
        }

        long change(int node, int count) {
            int[] next = points.clone();
            next[node] = count;
            TreeMap<Integer, int[]> moves = new TreeMap<>();
            for (int key : keysThere()) {
                int from = owner(key, points);
                int to = owner(key, next);
                if (from != to) {
                    moves.put(key, new int[] {from, to, 1});
                }
            }
            write(new Record(next, moves, null));
            replay();
            return moves.size();
        }

        long join(int node, int count) {
            needNode(node);
            if (count < 1 || count > 16) {
                throw new IllegalArgumentException();
            }
            need(!off && plan == null && points[node] == 0);
            return change(node, count);
        }

        long leave(int node) {
            needNode(node);
            int members = 0;
            for (int n = 0; n < 8; n++) {
                members += points[n] > 0 ? 1 : 0;
            }
            need(!off && plan == null && points[node] > 0 && members > 1);
            return change(node, 0);
        }

        long step() {
            need(!off && plan != null);
            for (int key : plan.keySet()) {
                int[] move = plan.get(key);
                if (move[2] == 1) {
                    write(move[1], key, stores.get(move[0]).get(key));
                } else if (move[2] == 2) {
                    write(new Record(null, null, key));
                } else if (move[2] == 3) {
                    write(move[0], key, null);
                } else {
                    continue;
                }
                move[2]++;
                return move[2];
            }
            write(new Record(null, null, null));
            plan = null;
            return 0;
        }

        void replay() {
            points = firstPoints.clone();
            plan = null;
            for (Record record : log) {
                if (record.points != null) {
                    points = record.points.clone();
                    plan = new TreeMap<>();
                    for (int key : record.moves.keySet()) {
                        plan.put(key, record.moves.get(key).clone());
                    }
                } else if (record.flippedKey != null) {
                    plan.get(record.flippedKey)[2] = 3;
                } else {
                    plan = null;
                }
            }
        }

        long inState(int state) {
            return plan.values().stream().filter(move -> move[2] == state).count();
        }

        long recover() {
            need(off);
            off = false;
            failIn = -1;
            replay();
            return plan == null ? -1 : inState(1);
        }

        long fail(int n) {
            if (n < -1) {
                throw new IllegalArgumentException();
            }
            need(!off);
            failIn = n;
            return 0;
        }

        long key(int node, int i) {
            needNode(node);
            if (i < 0 || i >= stores.get(node).size()) {
                throw new IndexOutOfBoundsException();
            }
            return new ArrayList<>(stores.get(node).keySet()).get(i);
        }

        long count(int what) {
            if (what < 0 || what > 2) {
                throw new IllegalArgumentException();
            }
            need(!off);
            if (what == 0) {
                return keysThere().size();
            }
            if (plan == null) {
                return -1;
            }
            return what == 2 ? inState(3) : plan.size() - inState(4);
        }

        long share(int node) {
            needNode(node);
            need(!off);
            TreeMap<Integer, Integer> ring = new TreeMap<>();
            for (int n = 7; n >= 0; n--) {
                for (int v = 0; v < points[n]; v++) {
                    ring.put(place(1000003L * n + v + (1L << 40)), n);
                }
            }
            long sum = 0;
            for (int at : ring.keySet()) {
                Integer before = ring.lowerKey(at);
                long from = before == null ? ring.lastKey() - (1L << 31) : before;
                sum += ring.get(at) == node ? at - from : 0;
            }
            return sum;
        }
    }

    /** A row of numbers that looks thrown, and is the same each time. */
    private static final class Numbers {
        private long at;

        Numbers(long at) {
            this.at = at;
        }

        int below(int bound) {
            at = at * 6364136223846793005L + 1442695040888963407L;
            return (int) ((at >>> 33) % bound);
        }
    }

    private static final String[] NAMES = {
        "put", "remove", "get", "join", "leave", "step", "fail", "recover", "off", "place", "owner",
        "home", "state", "holds", "size", "key", "points", "count", "written", "share"
    };

    private static long onClass(ShardRing x, int call, int a, int b) {
        switch (call) {
            case 0: return x.put(a, b);
            case 1: return x.remove(a);
            case 2: return x.get(a);
            case 3: return x.join(a, b);
            case 4: return x.leave(a);
            case 5: return x.step();
            case 6: x.fail(a); return 0;
            case 7: return x.recover();
            case 8: return x.off() ? 1 : 0;
            case 9: return x.place(a * 4294967311L + b);
            case 10: return x.owner(a);
            case 11: return x.home(a);
            case 12: return x.state(a);
            case 13: return x.holds(a, b) ? 1 : 0;
            case 14: return x.size(a);
            case 15: return x.key(a, b);
            case 16: return x.points(a);
            case 17: return x.count(a);
            case 18: return x.written(a == 1);
            default: return x.share(a);
        }
    }

    private static long onModel(Model x, int call, int a, int b) {
        boolean ofNode = call >= 13 && call <= 16;
        if (ofNode) {
            x.needNode(a);
        }
        if (call >= 10 && call <= 12 || call == 16) {
            x.need(!x.off);
        }
        switch (call) {
            case 0: return x.put(a, b);
            case 1: return x.remove(a);
            case 2: return x.get(a);
            case 3: return x.join(a, b);
            case 4: return x.leave(a);
            case 5: return x.step();
            case 6: return x.fail(a);
            case 7: return x.recover();
            case 8: return x.off ? 1 : 0;
            case 9: return Model.place(a * 4294967311L + b);
            case 10: return Model.owner(a, x.points);
            case 11: return x.home(a);
            case 12: return x.state(a);
            case 13: return x.stores.get(a).containsKey(b) ? 1 : 0;
            case 14: return x.stores.get(a).size();
            case 15: return x.key(a, b);
            case 16: return x.points[a];
            case 17: return x.count(a);
            case 18: return a == 1 ? x.log.size() : x.writes;
            default: return x.share(a);
        }
    }

    private final Numbers numbers;
    private final ShardRing object;
    private final Model model;
    private final int run;
    private final int[] pool;
    private final int[] weights;
    private int calls;
    private int wrong;

    private ModelTests(int run) {
        this.run = run;
        numbers = new Numbers(run * 7919L + 17);
        int nodes = numbers.below(4) == 0 ? numbers.below(12) - 1 : 1 + numbers.below(4);
        int each = numbers.below(4) == 0 ? numbers.below(20) - 1 : 1 + numbers.below(4);
        object = new ShardRing(nodes, each);
        model = new Model(Math.min(nodes, 8), each);
        // Few keys meet each other often; many reach the limit.
        pool = new int[run % 10 == 0 ? 300 : 1 + numbers.below(40)];
        for (int i = 0; i < pool.length; i++) {
            pool[i] = numbers.below(2) == 0 ? numbers.below(1000) - 500 : numbers.below(Integer.MAX_VALUE) * 2 + 1;
        }
        int[] usual = {12, 4, 3, 3, 3, 24, 2, 1, 1, 1, 1, 2, 2, 2, 1, 1, 1, 3, 2, 1};
        weights = usual;
        if (run % 10 == 0) {
            weights[0] = 90;
            weights[1] = 2;
        }
        weights[6] = numbers.below(4);
    }

    private int someKey() {
        return pool[numbers.below(pool.length)];
    }

    private int someNode() {
        return numbers.below(20) == 0 ? numbers.below(2) * 9 - 1 : numbers.below(8);
    }

    private int someCall() {
        if (model.off && numbers.below(3) == 0) {
            return 7;
        }
        int sum = 0;
        for (int weight : weights) {
            sum += weight;
        }
        int at = numbers.below(sum);
        int call = 0;
        while (at >= weights[call]) {
            at -= weights[call];
            call++;
        }
        return call;
    }

    private void someRun() {
        int length = 20 + numbers.below(run % 10 == 0 ? 450 : 250);
        for (int i = 0; i < length; i++) {
            int call = someCall();
            switch (call) {
                case 0: compare(call, someKey(), numbers.below(1000)); break;
                case 3: compare(call, someNode(), numbers.below(19)); break;
                case 6: compare(call, numbers.below(12) - (numbers.below(5) == 0 ? 2 : 0), 0); break;
                case 9: compare(call, someKey(), someKey()); break;
                case 13: compare(call, someNode(), someKey()); break;
                case 15: compare(call, someNode(), numbers.below(20) - 1); break;
                case 17: compare(call, numbers.below(5) - 1, 0); break;
                case 18: compare(call, numbers.below(2), 0); break;
                case 1: case 2: case 10: case 11: case 12: compare(call, someKey(), 0); break;
                default: compare(call, someNode(), 0); break;
            }
        }
        sweep();
    }

    /** All that can be seen from outside, as far as the calls last. */
    private void sweep() {
        for (int what = 0; what < 3; what++) {
            compare(17, what, 0);
            compare(18, what & 1, 0);
        }
        for (int node = 0; node < 8; node++) {
            compare(14, node, 0);
            compare(16, node, 0);
            compare(19, node, 0);
            for (int i = 0; i < model.stores.get(node).size(); i++) {
                compare(15, node, i);
            }
        }
        for (int key : pool) {
            compare(2, key, 0);
            compare(12, key, 0);
            compare(11, key, 0);
            compare(13, someNode(), key);
        }
    }

    private void compare(int call, int a, int b) {
        if (calls >= MOST_CALLS) {
            return;
        }
        calls++;
        String due;
        try {
            due = String.valueOf(onModel(model, call, a, b));
        } catch (PowerFailure e) {
            due = "-9";
        } catch (RuntimeException e) {
            due = e.getClass().getSimpleName();
        }
        String got;
        try {
            got = String.valueOf(onClass(object, call, a, b));
        } catch (RuntimeException e) {
            got = e.getClass().getSimpleName();
        }
        if (!got.equals(due)) {
            wrong++;
            System.out.println("run " + run + ", call " + calls + ": " + NAMES[call] + "(" + a + ", " + b
                + ") answered " + got + ", due is " + due);
        }
    }

    public static void main(String[] args) {
        int wrong = 0;
        long calls = 0;
        for (int run = 0; run < RUNS && wrong < 20; run++) {
            ModelTests test = new ModelTests(run);
            test.someRun();
            wrong += test.wrong;
            calls += test.calls;
        }
        System.out.println(calls + " calls, " + wrong + " wrong");
        if (wrong != 0 || calls == 0) {
            System.exit(1);
        }
    }
}
