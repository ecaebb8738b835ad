import java.util.Arrays;
import java.util.NoSuchElementException;

/**
 * Keys spread over nodes by a ring of points; when a node joins or leaves, the keys whose owner
 * is another one then move one by one, by steps, while they are read and written; the power may
 * fail before any write, and all goes on from what was written.
 */
public final class ShardRing {
    public static final int NONE = -1;
    public static final int FAILED = -9;
    public static final int OTHER = 0, NEW = 1, COPIED = 2, FLIPPED = 3, GONE = 4;

    private static final int NODES = 8;
    private static final int MOST_POINTS = 16;
    private static final int MOST_KEYS = 256;
    private static final int FIRST_ROOM = 32;
    private static final long PLACES = 1L << 31;

    private final Ring ring;
    private final Store[] stores;
    private final Plan plan;
    private final Power power;
    // Only put and remove change it: a key's home moves only to a store that has the same of it.
    private int there;

    public ShardRing(int nodes, int points) {
        int members = Math.max(1, Math.min(NODES, nodes));
        int each = Math.max(1, Math.min(MOST_POINTS, points));
        ring = new Ring();
        stores = new Store[NODES];
        plan = new Plan();
        power = new Power();
        for (int node = 0; node < NODES; node++) {
            stores[node] = new Store();
        }
        for (int node = 0; node < members; node++) {
            ring.admit(node, each);
        }
    }

    public int put(int key, int value) throws IllegalStateException {
        needPower();
        int row = plan.rowOf(key);
        Store home = stores[homeAt(row, key)];
        boolean added = !home.has(key);
        if (added && there >= MOST_KEYS) {
            throw new IllegalStateException("256 other keys are there");
        }
        if (!power.lastsForWrite()) {
            return FAILED;
        }
        home.set(key, value);
        there += added ? 1 : 0;
        if (plan.stateAt(row) == COPIED) {
            if (!power.lastsForWrite()) {
                return FAILED;
            }
            stores[plan.targets[row]].set(key, value);
        }
        return added ? 1 : 0;
    }

    public int remove(int key) throws IllegalStateException {
        needPower();
        int row = plan.rowOf(key);
        Store home = stores[homeAt(row, key)];
        if (!home.has(key)) {
            return 0;
        }
        if (!power.lastsForWrite()) {
            return FAILED;
        }
        home.drop(key);
        there--;
        if (plan.stateAt(row) == COPIED) {
            if (!power.lastsForWrite()) {
                return FAILED;
            }
            stores[plan.targets[row]].drop(key);
        }
        return 1;
    }

    public int get(int key) throws IllegalStateException, NoSuchElementException {
        needPower();
        Store home = stores[homeAt(plan.rowOf(key), key)];
        if (!home.has(key)) {
            throw new NoSuchElementException("the key is not there");
        }
        return home.valueOf(key);
    }

    public int join(int node, int points)
            throws IndexOutOfBoundsException, IllegalArgumentException, IllegalStateException {
        needNode(node);
        if (points < 1 || points > MOST_POINTS) {
            throw new IllegalArgumentException("points are not 1 .. 16");
        }
        needPower();
        if (plan.open || ring.pointsOf[node] > 0) {
            throw new IllegalStateException("there is a plan, or the node is a member");
        }
        if (!power.lastsForRecord()) {
            return FAILED;
        }
        ring.admit(node, points);
        makePlan();
        return plan.size;
    }

    public int leave(int node) throws IndexOutOfBoundsException, IllegalStateException {
        needNode(node);
        needPower();
        if (plan.open || ring.pointsOf[node] == 0 || ring.pointsOf[node] == ring.size) {
            throw new IllegalStateException("there is a plan, or the node is no member or the only one");
        }
        if (!power.lastsForRecord()) {
            return FAILED;
        }
        ring.dismiss(node);
        makePlan();
        return plan.size;
    }

    public int step() throws IllegalStateException {
        needPower();
        if (!plan.open) {
            throw new IllegalStateException("there is no plan");
        }
        int row = plan.gone;
        switch (plan.stateAt(row)) {
            case NEW:
                return copyToTarget(row);
            case COPIED:
                return flip();
            case FLIPPED:
                return takeOffSource(row);
            default:
                return endPlan();
        }
    }

    public void fail(int n) throws IllegalArgumentException, IllegalStateException {
        if (n < NONE) {
            throw new IllegalArgumentException("n is below -1");
        }
        needPower();
        power.writesLeft = n;
    }

    public int recover() throws IllegalStateException {
        if (!power.isOff) {
            throw new IllegalStateException("the power is on");
        }
        power.isOff = false;
        power.writesLeft = NONE;
        plan.forgetUnwritten();
        return plan.open ? plan.size - plan.flipped : NONE;
    }

    public boolean off() {
        return power.isOff;
    }

    public int place(long x) {
        return placeOf(x);
    }

    public int owner(int key) throws IllegalStateException {
        needPower();
        return ring.ownerOf(key);
    }

    public int home(int key) throws IllegalStateException {
        needPower();
        return homeAt(plan.rowOf(key), key);
    }

    public int state(int key) throws IllegalStateException {
        needPower();
        return plan.stateAt(plan.rowOf(key));
    }

    public boolean holds(int node, int key) throws IndexOutOfBoundsException {
        needNode(node);
        return stores[node].has(key);
    }

    public int size(int node) throws IndexOutOfBoundsException {
        needNode(node);
        return stores[node].size;
    }

    public int key(int node, int i) throws IndexOutOfBoundsException {
        needNode(node);
        if (i < 0 || i >= stores[node].size) {
            throw new IndexOutOfBoundsException("the node has not so many keys");
        }
        return stores[node].keys[i];
    }

    public int points(int node) throws IndexOutOfBoundsException, IllegalStateException {
        needNode(node);
        needPower();
        return ring.pointsOf[node];
    }

    public int count(int what) throws IllegalArgumentException, IllegalStateException {
        if (what < 0 || what > 2) {
            throw new IllegalArgumentException("what is not 0, 1 or 2");
        }
        needPower();
        if (what == 0) {
            return there;
        }
        if (!plan.open) {
            return NONE;
        }
        return (what == 1 ? plan.size : plan.flipped) - plan.gone;
    }

    public int written(boolean log) {
        return log ? power.records : power.writes;
    }

    public long share(int node) throws IndexOutOfBoundsException, IllegalStateException {
        needNode(node);
        needPower();
        return ring.placesOf(node);
    }

    private void needPower() {
        if (power.isOff) {
            throw new IllegalStateException("the power is off");
        }
    }

    private static void needNode(int node) {
        if (node < 0 || node >= NODES) {
            throw new IndexOutOfBoundsException("there is no such node");
        }
    }

    /** The home of a key that stands in this row of the plan, or in none. */
    private int homeAt(int row, int key) {
        int is = plan.stateAt(row);
        return is == NEW || is == COPIED ? plan.sources[row] : ring.ownerOf(key);
    }

    /**
     * Without a plan each store has just the keys that its node owns, so the store that a key is
     * in tells its owner by the old members when the ring has the new ones already.
     */
    private void makePlan() {
        plan.open = true;
        for (int node = 0; node < NODES; node++) {
            Store store = stores[node];
            for (int i = 0; i < store.size; i++) {
                int target = ring.ownerOf(store.keys[i]);
                if (target != node) {
                    plan.enter(store.keys[i], node, target);
                }
            }
        }
    }

    private int copyToTarget(int row) {
        if (!power.lastsForWrite()) {
            return FAILED;
        }
        int key = plan.keys[row];
        Store source = stores[plan.sources[row]];
        Store target = stores[plan.targets[row]];
        if (source.has(key)) {
            target.set(key, source.valueOf(key));
        } else {
            target.drop(key);
        }
        plan.copied = true;
        return COPIED;
    }

    private int flip() {
        if (!power.lastsForRecord()) {
            return FAILED;
        }
        plan.flipped++;
        plan.copied = false;
        return FLIPPED;
    }

    private int takeOffSource(int row) {
        if (!power.lastsForWrite()) {
            return FAILED;
        }
        stores[plan.sources[row]].drop(plan.keys[row]);
        plan.gone++;
        return GONE;
    }

    private int endPlan() {
        if (!power.lastsForRecord()) {
            return FAILED;
        }
        plan.end();
        return OTHER;
    }

    private static int placeOf(long x) {
        return (int) (((x ^ (x >>> 29)) * -7046029254386353131L) >>> 33);
    }

    /** How many of the first size numbers of an ascending row are below a number. */
    private static int below(int[] row, int size, int number) {
        int found = 0;
        for (int stride = Integer.highestOneBit(size); stride > 0; stride >>= 1) {
            if (found + stride <= size && row[found + stride - 1] < number) {
                found += stride;
            }
        }
        return found;
    }

    /** The row with a number more at an index of 0 .. size; another, longer row if this one is full. */
    private static int[] inserted(int[] row, int size, int at, int number) {
        int[] longer = size < row.length ? row : Arrays.copyOf(row, 2 * size + 1);
        System.arraycopy(longer, at, longer, at + 1, size - at);
        longer[at] = number;
        return longer;
    }

    /** The points of all members, in ascending order of place, then of node. */
    private static final class Ring {
        private final int[] pointsOf = new int[NODES];
        private int[] places = new int[NODES * MOST_POINTS];
        private int[] nodes = new int[NODES * MOST_POINTS];
        private int size;

        private void admit(int node, int points) {
            pointsOf[node] = points;
            for (int v = 0; v < points; v++) {
                int place = placeOf(1000003L * node + v + (1L << 40));
                int at = below(places, size, place);
                while (at < size && places[at] == place && nodes[at] < node) {
                    at++;
                }
                places = inserted(places, size, at, place);
                nodes = inserted(nodes, size, at, node);
                size++;
            }
        }

        private void dismiss(int node) {
            pointsOf[node] = 0;
            int kept = 0;
            for (int i = 0; i < size; i++) {
                if (nodes[i] != node) {
                    places[kept] = places[i];
                    nodes[kept] = nodes[i];
                    kept++;
                }
            }
            size = kept;
        }

        private int ownerOf(int key) {
            int at = below(places, size, placeOf(key));
            return nodes[at < size ? at : 0];
        }

        /** The places from behind one point up to the next are the next one's. */
        private long placesOf(int node) {
            long sum = 0;
            // The first point also has what is behind the last one: the ring closes there.
            long before = places[size > 0 ? size - 1 : 0] - PLACES;
            for (int i = 0; i < size; i++) {
                if (nodes[i] == node) {
                    sum += places[i] - before;
                }
                before = places[i];
            }
            return sum;
        }
    }

    /** What one node has: keys in ascending order, each with its value. */
    private static final class Store {
        private int[] keys = new int[FIRST_ROOM];
        private int[] values = new int[FIRST_ROOM];
        private int size;

        private boolean has(int key) {
            return hasAt(below(keys, size, key), key);
        }

        private boolean hasAt(int at, int key) {
            return at < size && keys[at] == key;
        }

        /** The value of a key that the store has; 0 for another. */
        private int valueOf(int key) {
            int at = below(keys, size, key);
            return hasAt(at, key) ? values[at] : 0;
        }

        private void set(int key, int value) {
            int at = below(keys, size, key);
            if (hasAt(at, key)) {
                values[at] = value;
                return;
            }
            keys = inserted(keys, size, at, key);
            values = inserted(values, size, at, value);
            size++;
        }

        private void drop(int key) {
            int at = below(keys, size, key);
            if (hasAt(at, key)) {
                size--;
                System.arraycopy(keys, at + 1, keys, at, size - at);
                System.arraycopy(values, at + 1, values, at, size - at);
            }
        }
    }

    /**
     * The keys that move, in ascending order. Steps go through them in this order and a recovery
     * loses only what comes last, so three numbers tell what each key is: the first ones are GONE,
     * those behind them FLIPPED, and of the others the first alone may be COPIED.
     */
    private static final class Plan {
        private int[] keys = new int[FIRST_ROOM];
        private int[] sources = new int[FIRST_ROOM];
        private int[] targets = new int[FIRST_ROOM];
        private int size;
        private boolean open;
        private int flipped;
        private int gone;
        private boolean copied;

        private void end() {
            open = false;
            size = 0;
            flipped = 0;
            forgetUnwritten();
        }

        /** FLIPPED is in the log; COPIED and GONE stand nowhere. */
        private void forgetUnwritten() {
            gone = 0;
            copied = false;
        }

        private void enter(int key, int source, int target) {
            int at = below(keys, size, key);
            keys = inserted(keys, size, at, key);
            sources = inserted(sources, size, at, source);
            targets = inserted(targets, size, at, target);
            size++;
        }

        /** The row of a key, or NONE. */
        private int rowOf(int key) {
            int at = below(keys, size, key);
            return at < size && keys[at] == key ? at : NONE;
        }

        /** What the key of a row is; OTHER if there is no such row. */
        private int stateAt(int row) {
            if (row < 0 || row >= size) {
                return OTHER;
            }
            if (row < flipped) {
                return row < gone ? GONE : FLIPPED;
            }
            return row == flipped && copied ? COPIED : NEW;
        }
    }

    /** Counts the writes, and fails before the one that it was told to fail before. */
    private static final class Power {
        private boolean isOff;
        private int writesLeft = NONE;
        private int writes;
        private int records;

        private boolean lastsForWrite() {
            if (writesLeft == 0) {
                isOff = true;
                return false;
            }
            if (writesLeft > 0) {
                writesLeft--;
            }
            writes++;
            return true;
        }

        private boolean lastsForRecord() {
            if (!lastsForWrite()) {
                return false;
            }
            records++;
            return true;
        }
    }
}
