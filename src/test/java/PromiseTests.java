import java.util.NoSuchElementException;

/**
 * Each promise of the document with ordinary inputs, its edges and wrong inputs.
 *
 * The points that the small rings here have: node 0 at 52752509, node 2 at 1525290039, node 1 at
 * 1862763098 (and node 0 with two points also at 1379970393). The keys were searched so that their
 * places lie at these points or just beside them.
 */
public final class PromiseTests {
    private static final Class<? extends RuntimeException> BOUNDS = IndexOutOfBoundsException.class;
    private static final Class<? extends RuntimeException> ARGUMENT = IllegalArgumentException.class;
    private static final Class<? extends RuntimeException> STATE = IllegalStateException.class;
    private static final Class<? extends RuntimeException> MISSING = NoSuchElementException.class;

    /** Places 1525290038, 1525290039, 52752510: node 1 owns them in a ring of 0 and 1; with node 2, that one. */
    private static final int A = -2108339683, B = -272027779, C = 1998364718;
    /** Place 1525290040: node 1 owns it with and without node 2. */
    private static final int D = 865461552;
    /** Places 0 and 52752509: node 0 owns them. */
    private static final int E = 0, F = -1404930941;

    private static int calls;
    private static int wrong;

    private interface Call {
        Object run();
    }

    public static void main(String[] args) {
        constants();
        newObject();
        put();
        putAtTheLimit();
        putWhileMoving();
        putWithFailure();
        remove();
        removeWhileMoving();
        get();
        join();
        leave();
        step();
        stepWithRemovedKeys();
        stepWithFailure();
        planOfNoKeys();
        fail();
        recover();
        recoverWithoutPlan();
        off();
        place();
        owner();
        home();
        state();
        holds();
        size();
        key();
        points();
        count();
        written();
        share();
        withoutPower();
        System.out.println(calls + " calls, " + wrong + " wrong");
        if (wrong != 0 || calls == 0) {
            System.exit(1);
        }
    }

    private static void constants() {
        due("NONE", () -> ShardRing.NONE, -1);
        due("FAILED", () -> ShardRing.FAILED, -9);
        due("OTHER", () -> ShardRing.OTHER, 0);
        due("NEW", () -> ShardRing.NEW, 1);
        due("COPIED", () -> ShardRing.COPIED, 2);
        due("FLIPPED", () -> ShardRing.FLIPPED, 3);
        due("GONE", () -> ShardRing.GONE, 4);
    }

    private static void newObject() {
        ShardRing x = new ShardRing(3, 5);
        for (int node = 0; node < 8; node++) {
            int n = node;
            due("1 points of a new ring's node " + n, () -> x.points(n), n < 3 ? 5 : 0);
            due("1 size of a new ring's node " + n, () -> x.size(n), 0);
        }
        due("1 keys", () -> x.count(0), 0);
        due("1 plan", () -> x.count(1), -1);
        due("1 writes", () -> x.written(false), 0);
        due("1 records", () -> x.written(true), 0);
        due("1 off", x::off, false);
        newObjectOf(Integer.MIN_VALUE, Integer.MIN_VALUE, 1, 1);
        newObjectOf(-1, -1, 1, 1);
        newObjectOf(0, 0, 1, 1);
        newObjectOf(1, 1, 1, 1);
        newObjectOf(2, 15, 2, 15);
        newObjectOf(7, 2, 7, 2);
        newObjectOf(8, 16, 8, 16);
        newObjectOf(9, 17, 8, 16);
        newObjectOf(Integer.MAX_VALUE, Integer.MAX_VALUE, 8, 16);
    }

    private static void newObjectOf(int nodes, int points, int members, int each) {
        ShardRing x = new ShardRing(nodes, points);
        for (int node = 0; node < 8; node++) {
            int n = node;
            due("1 points of " + n + " in (" + nodes + ", " + points + ")", () -> x.points(n), n < members ? each : 0);
        }
    }

    private static void put() {
        ShardRing x = new ShardRing(2, 1);
        due("2 new", () -> x.put(A, 7), 1);
        due("2 again", () -> x.put(A, 8), 0);
        due("2 same value", () -> x.put(A, 8), 0);
        due("2 the value", () -> x.get(A), 8);
        due("2 least key", () -> x.put(Integer.MIN_VALUE, Integer.MAX_VALUE), 1);
        due("2 greatest key", () -> x.put(Integer.MAX_VALUE, Integer.MIN_VALUE), 1);
        due("2 least key's value", () -> x.get(Integer.MIN_VALUE), Integer.MAX_VALUE);
        due("2 greatest key's value", () -> x.get(Integer.MAX_VALUE), Integer.MIN_VALUE);
        due("2 each put is a write", () -> x.written(false), 5);
        due("2 no put is a record", () -> x.written(true), 0);
        due("2 in the home's store", () -> x.holds(1, A), true);
        due("2 in no other store", () -> x.holds(0, A), false);
    }

    private static void putAtTheLimit() {
        ShardRing x = new ShardRing(8, 16);
        for (int i = 0; i < 256; i++) {
            int k = i * 31 - 4000;
            due("2 key " + i, () -> x.put(k, k), 1);
        }
        due("2 the 257th key", () -> x.put(1000000, 1), STATE);
        due("2 count after that", () -> x.count(0), 256);
        due("2 a key that is there", () -> x.put(-4000, 5), 0);
        due("2 writes", () -> x.written(false), 257);
        due("2 fail(0)", () -> told(x, 0), true);
        due("2 the limit comes before the failing", () -> x.put(1000000, 1), STATE);
        due("2 still on", x::off, false);
        due("2 fail(NONE)", () -> told(x, -1), true);
        due("2 remove makes room", () -> x.remove(-3969), 1);
        due("2 room for one", () -> x.put(1000000, 1), 1);
        due("2 no room for two", () -> x.put(-3969, 1), STATE);
        due("2 limit also while moving", () -> x.leave(0) > 0, true);
        due("2 no room while moving", () -> x.put(-3969, 1), STATE);
        due("2 copied twice, there once", x::step, ShardRing.COPIED);
        due("2 count while one is copied", () -> x.count(0), 256);
        due("2 a key that is there while moving", () -> x.put(1000000, 2), 0);
    }

    private static void putWhileMoving() {
        ShardRing x = moving();
        due("2 to the source of a NEW key", () -> x.put(A, 10), 0);
        due("2 not to its target", () -> x.holds(2, A), false);
        due("2 writes so far", () -> x.written(false), 7);
        due("2 A is COPIED", x::step, ShardRing.COPIED);
        due("2 to a COPIED key", () -> x.put(A, 11), 0);
        due("2 two writes", () -> x.written(false), 10);
        due("2 neither is a record", () -> x.written(true), 1);
        due("2 A is FLIPPED", x::step, ShardRing.FLIPPED);
        due("2 the target has what was put", () -> x.get(A), 11);
        due("2 to a FLIPPED key", () -> x.put(A, 12), 0);
        due("2 one write", () -> x.written(false), 12);
        due("2 A is GONE", x::step, ShardRing.GONE);
        due("2 the value of the GONE key", () -> x.get(A), 12);
        due("2 to a GONE key", () -> x.put(A, 13), 0);
        due("2 not to its source", () -> x.holds(1, A), false);
        due("2 a key that is not in the plan", () -> x.put(1566870285, 1), 1);
        due("2 goes to its new owner", () -> x.holds(2, 1566870285), true);
    }

    private static void putWithFailure() {
        ShardRing x = new ShardRing(2, 1);
        x.fail(0);
        due("2 fails before its write", () -> x.put(A, 1), -9);
        due("2 nothing written", () -> x.written(false), 0);
        due("2 nothing held", () -> x.holds(1, A), false);
        ShardRing y = moving();
        y.step();
        y.remove(A);
        y.fail(1);
        due("2 fails before its second write", () -> y.put(A, 50), -9);
        due("2 source has it", () -> y.holds(1, A), true);
        due("2 target has it not", () -> y.holds(2, A), false);
        due("2 recovered", y::recover, 3);
        due("2 there after recovery", () -> y.get(A), 50);
        due("2 counted after recovery", () -> y.count(0), 5);
        due("2 copied again", y::step, ShardRing.COPIED);
        due("2 target has it now", () -> y.holds(2, A), true);
    }

    private static void remove() {
        ShardRing x = new ShardRing(2, 1);
        due("3 nothing there", () -> x.remove(A), 0);
        x.fail(0);
        due("3 nothing there, nothing written", () -> x.remove(A), 0);
        due("3 so nothing failed", x::off, false);
        x.fail(-1);
        x.put(A, 1);
        x.put(B, 2);
        due("3 there", () -> x.remove(A), 1);
        due("3 a write", () -> x.written(false), 3);
        due("3 no more", () -> x.remove(A), 0);
        due("3 no write", () -> x.written(false), 3);
        due("3 not there", () -> x.get(A), MISSING);
        due("3 the other is", () -> x.get(B), 2);
        due("3 count", () -> x.count(0), 1);
        x.fail(0);
        due("3 fails before its write", () -> x.remove(B), -9);
        due("3 still held", () -> x.holds(1, B), true);
        due("3 without power", () -> x.remove(B), STATE);
    }

    private static void removeWhileMoving() {
        ShardRing x = moving();
        x.step();
        due("3 a COPIED key", () -> x.remove(A), 1);
        due("3 off the source", () -> x.holds(1, A), false);
        due("3 off the target", () -> x.holds(2, A), false);
        due("3 two writes", () -> x.written(false), 9);
        due("3 neither is a record", () -> x.written(true), 1);
        due("3 a COPIED key that is not there", () -> x.remove(A), 0);
        due("3 no write", () -> x.written(false), 9);
        due("3 still in the plan", () -> x.state(A), ShardRing.COPIED);
        x.step();
        due("3 a FLIPPED key that is not there", () -> x.remove(A), 0);
        ShardRing y = moving();
        y.step();
        y.fail(1);
        due("3 fails before its second write", () -> y.remove(A), -9);
        due("3 off the source only", () -> y.holds(1, A), false);
        due("3 still at the target", () -> y.holds(2, A), true);
        due("3 recovered", y::recover, 3);
        due("3 not there after recovery", () -> y.get(A), MISSING);
        due("3 counted after recovery", () -> y.count(0), 4);
        due("3 nothing is copied", y::step, ShardRing.COPIED);
        due("3 off the target now", () -> y.holds(2, A), false);
        ShardRing z = moving();
        z.step();
        z.step();
        due("3 a FLIPPED key", () -> z.remove(A), 1);
        due("3 its source keeps it until the step", () -> z.holds(1, A), true);
        due("3 it is not there", () -> z.get(A), MISSING);
        due("3 one write", () -> z.written(false), 9);
    }

    private static void get() {
        ShardRing x = moving();
        due("4 of a NEW key", () -> x.get(A), 1);
        due("4 of a key that stays", () -> x.get(D), 4);
        due("4 of a key that is not there", () -> x.get(77), MISSING);
        x.step();
        due("4 of a COPIED key", () -> x.get(A), 1);
        x.step();
        due("4 of a FLIPPED key", () -> x.get(A), 1);
        x.put(A, 9);
        due("4 of a FLIPPED key, from the target", () -> x.get(A), 9);
        x.step();
        due("4 of a GONE key", () -> x.get(A), 9);
        due("4 writes nothing", () -> x.written(false), 10);
    }

    private static void join() {
        ShardRing x = loaded();
        due("5 node below", () -> x.join(-1, 1), BOUNDS);
        due("5 node above", () -> x.join(8, 1), BOUNDS);
        due("5 node and points wrong", () -> x.join(8, 0), BOUNDS);
        due("5 points below", () -> x.join(2, 0), ARGUMENT);
        due("5 points above", () -> x.join(2, 17), ARGUMENT);
        due("5 points wrong of a member", () -> x.join(1, 17), ARGUMENT);
        due("5 a member", () -> x.join(1, 1), STATE);
        due("5 no record yet", () -> x.written(true), 0);
        due("5 three keys move", () -> x.join(2, 1), 3);
        due("5 a record", () -> x.written(true), 1);
        due("5 which is a write", () -> x.written(false), 6);
        due("5 a member now", () -> x.points(2), 1);
        due("5 the stores are as before", () -> x.size(1), 4);
        due("5 and the new one's is empty", () -> x.size(2), 0);
        due("5 there is a plan", () -> x.join(3, 1), STATE);
        due("5 there is a plan, points wrong", () -> x.join(3, 17), ARGUMENT);
        ShardRing y = loaded();
        y.fail(0);
        due("5 fails", () -> y.join(2, 1), -9);
        due("5 off, points wrong", () -> y.join(2, 0), ARGUMENT);
        due("5 off", () -> y.join(2, 1), STATE);
        y.recover();
        due("5 no member", () -> y.points(2), 0);
        due("5 no plan", () -> y.count(1), -1);
        due("5 most points", () -> y.join(7, 16) >= 0, true);
        due("5 has them", () -> y.points(7), 16);
    }

    private static void leave() {
        ShardRing x = new ShardRing(3, 1);
        load(x);
        due("6 node below", () -> x.leave(-1), BOUNDS);
        due("6 node above", () -> x.leave(8), BOUNDS);
        due("6 no member", () -> x.leave(3), STATE);
        x.fail(0);
        due("6 fails", () -> x.leave(2), -9);
        due("6 off, node wrong", () -> x.leave(8), BOUNDS);
        due("6 off", () -> x.leave(2), STATE);
        x.recover();
        due("6 still a member", () -> x.points(2), 1);
        due("6 three keys move", () -> x.leave(2), 3);
        due("6 a record", () -> x.written(true), 1);
        due("6 which is a write", () -> x.written(false), 6);
        due("6 no member any more", () -> x.points(2), 0);
        due("6 its store is as before", () -> x.size(2), 3);
        due("6 there is a plan", () -> x.leave(1), STATE);
        due("6 no second plan by join either", () -> x.join(3, 1), STATE);
        finish(x, 3);
        due("6 its store is empty", () -> x.size(2), 0);
        due("6 the next leaves", () -> x.leave(0), 1);
        finish(x, 1);
        due("6 all keys are there", () -> x.size(1), 5);
        due("6 the only one", () -> x.leave(1), STATE);
        due("6 it comes again", () -> x.join(0, 1), 1);
    }

    private static void step() {
        ShardRing x = loaded();
        due("7 no plan", x::step, STATE);
        x.join(2, 1);
        due("7 A copied", x::step, ShardRing.COPIED);
        due("7 to the target", () -> x.holds(2, A), true);
        due("7 from the source, that keeps it", () -> x.holds(1, A), true);
        due("7 no record", () -> x.written(true), 1);
        due("7 A flipped", x::step, ShardRing.FLIPPED);
        due("7 a record", () -> x.written(true), 2);
        due("7 the source has it", () -> x.holds(1, A), true);
        due("7 A gone", x::step, ShardRing.GONE);
        due("7 no record for that", () -> x.written(true), 2);
        due("7 off the source", () -> x.holds(1, A), false);
        due("7 a step is a write", () -> x.written(false), 9);
        due("7 B is the next", x::step, ShardRing.COPIED);
        due("7 B is the next, indeed", () -> x.state(B), ShardRing.COPIED);
        due("7 B flipped", x::step, ShardRing.FLIPPED);
        due("7 B gone", x::step, ShardRing.GONE);
        due("7 C copied", x::step, ShardRing.COPIED);
        due("7 C flipped", x::step, ShardRing.FLIPPED);
        due("7 C gone", x::step, ShardRing.GONE);
        due("7 all gone, a plan still", () -> x.count(1), 0);
        due("7 the end", x::step, ShardRing.OTHER);
        due("7 a record of the end", () -> x.written(true), 5);
        due("7 no plan any more", x::step, STATE);
        due("7 it moved", () -> x.size(2), 3);
        due("7 the values came too", () -> x.get(C), 3);
    }

    private static void stepWithRemovedKeys() {
        ShardRing x = moving();
        x.remove(A);
        x.fail(3);
        due("7 a NEW key that is not there", x::step, ShardRing.COPIED);
        due("7 nothing copied", () -> x.holds(2, A), false);
        due("7 it is flipped all the same", x::step, ShardRing.FLIPPED);
        due("7 it is gone all the same", x::step, ShardRing.GONE);
        due("7 all three were writes", x::step, -9);
        due("7 so many writes", () -> x.written(false), 10);
        due("7 recovered", x::recover, 2);
        due("7 gone once more", x::step, ShardRing.GONE);
        due("7 that is a write too", () -> x.written(false), 11);
    }

    private static void stepWithFailure() {
        ShardRing x = moving();
        x.fail(0);
        due("7 copying fails", x::step, -9);
        due("7 off", x::step, STATE);
        due("7 not copied", () -> x.holds(2, A), false);
        x.recover();
        x.fail(1);
        due("7 copied", x::step, ShardRing.COPIED);
        due("7 flipping fails", x::step, -9);
        due("7 no record", () -> x.written(true), 1);
        due("7 three NEW keys", x::recover, 3);
        due("7 copied again", x::step, ShardRing.COPIED);
        due("7 flipped now", x::step, ShardRing.FLIPPED);
        x.fail(0);
        due("7 taking off fails", x::step, -9);
        due("7 not taken off", () -> x.holds(1, A), true);
        due("7 two NEW keys", x::recover, 2);
        due("7 A is FLIPPED", () -> x.state(A), ShardRing.FLIPPED);
        for (int i = 0; i < 7; i++) {
            x.step();
        }
        x.fail(0);
        due("7 ending fails", x::step, -9);
        due("7 no NEW key, a plan", x::recover, 0);
        due("7 all are FLIPPED", () -> x.count(2), 3);
        due("7 A gone again", x::step, ShardRing.GONE);
        due("7 B gone again", x::step, ShardRing.GONE);
        due("7 C gone again", x::step, ShardRing.GONE);
        due("7 the end", x::step, ShardRing.OTHER);
        due("7 all keys there", () -> x.count(0), 5);
    }

    private static void planOfNoKeys() {
        ShardRing x = new ShardRing(1, 1);
        due("5 a plan of no keys", () -> x.join(1, 1), 0);
        due("19 it has no keys", () -> x.count(1), 0);
        due("19 none is FLIPPED", () -> x.count(2), 0);
        due("6 it is a plan", () -> x.leave(1), STATE);
        x.fail(0);
        due("7 its end fails", x::step, -9);
        due("9 it is there after recovery", x::recover, 0);
        due("7 its end", x::step, ShardRing.OTHER);
        due("19 no plan", () -> x.count(1), -1);
        due("6 leave makes one too", () -> x.leave(1), 0);
    }

    private static void fail() {
        ShardRing x = new ShardRing(2, 1);
        due("8 below -1", () -> told(x, -2), ARGUMENT);
        due("8 far below", () -> told(x, Integer.MIN_VALUE), ARGUMENT);
        x.fail(2);
        due("8 first write", () -> x.put(1, 1), 1);
        due("8 second write", () -> x.put(2, 1), 1);
        due("8 no write", () -> x.get(2), 1);
        due("8 on until a write", x::off, false);
        due("8 third write", () -> x.put(3, 1), -9);
        due("8 off then", x::off, true);
        due("8 off", () -> told(x, 0), STATE);
        due("8 off and NONE", () -> told(x, -1), STATE);
        due("8 off and below -1", () -> told(x, -2), ARGUMENT);
        x.recover();
        x.fail(0);
        x.fail(-1);
        due("8 told off", () -> x.put(3, 1), 1);
        x.fail(0);
        x.fail(1);
        due("8 told anew", () -> x.put(4, 1), 1);
        due("8 told anew, behind that", () -> x.put(5, 1), -9);
        x.recover();
        x.fail(Integer.MAX_VALUE);
        due("8 much later", () -> x.put(5, 1), 1);
    }

    private static void recover() {
        ShardRing x = moving();
        due("9 on", x::recover, STATE);
        for (int i = 0; i < 4; i++) {
            x.step();
        }
        due("9 A was GONE", () -> x.state(A), ShardRing.GONE);
        due("9 B was COPIED", () -> x.state(B), ShardRing.COPIED);
        x.fail(0);
        due("9 fails", x::step, -9);
        due("9 B and C are NEW", x::recover, 2);
        due("9 on again", x::recover, STATE);
        due("9 A is FLIPPED", () -> x.state(A), ShardRing.FLIPPED);
        due("9 B is NEW", () -> x.state(B), ShardRing.NEW);
        due("9 C is NEW", () -> x.state(C), ShardRing.NEW);
        due("9 the stores are as written", () -> x.holds(2, B), true);
        due("9 members are the new ones", () -> x.points(2), 1);
        due("9 nothing is told to fail", x::step, ShardRing.GONE);
        due("9 recovery writes nothing", () -> x.written(false), 11);
        due("9 recovery puts no record", () -> x.written(true), 2);
    }

    private static void recoverWithoutPlan() {
        ShardRing x = loaded();
        x.fail(0);
        x.put(A, 1);
        due("9 never a plan", x::recover, -1);
        x.join(2, 1);
        finish(x, 3);
        x.fail(0);
        x.put(A, 1);
        due("9 no plan any more", x::recover, -1);
        due("9 the new member stays one", () -> x.points(2), 1);
        due("9 keys stay", () -> x.count(0), 5);
    }

    private static void off() {
        ShardRing x = new ShardRing(2, 1);
        due("10 new", x::off, false);
        x.fail(0);
        due("10 told", x::off, false);
        x.put(1, 1);
        due("10 failed", x::off, true);
        x.recover();
        due("10 recovered", x::off, false);
    }

    private static void place() {
        ShardRing x = new ShardRing(2, 1);
        due("11 of 0", () -> x.place(0), 0);
        due("11 of 1", () -> x.place(1), 1327217884);
        due("11 of -1", () -> x.place(-1), 47583148);
        due("11 of a point", () -> x.place(1L << 40), 52752509);
        due("11 of node 1's point", () -> x.place(1000003 + (1L << 40)), 1862763098);
        due("11 the greatest", () -> x.place(1836311900), 2147483647);
        due("11 the greatest, below zero", () -> x.place(-541469395), 2147483647);
        due("11 of the least long", () -> x.place(Long.MIN_VALUE), 1049950250);
        due("11 of the greatest long", () -> x.place(Long.MAX_VALUE), 1097533398);
    }

    private static void owner() {
        ShardRing x = new ShardRing(3, 1);
        due("12 place 0", () -> x.owner(E), 0);
        due("12 just below node 0's point", () -> x.owner(1564870282), 0);
        due("12 at node 0's point", () -> x.owner(F), 0);
        due("12 just above node 0's point", () -> x.owner(C), 2);
        due("12 just below node 2's point", () -> x.owner(A), 2);
        due("12 at node 2's point", () -> x.owner(B), 2);
        due("12 just above node 2's point", () -> x.owner(D), 1);
        due("12 at node 1's point", () -> x.owner(-1405930948), 1);
        due("12 just above the last point", () -> x.owner(864461551), 0);
        due("12 the greatest place", () -> x.owner(-541469395), 0);
        ShardRing y = moving();
        due("12 by the new members", () -> y.owner(A), 2);
        due("12 of a key that is nowhere", () -> y.owner(1566870285), 2);
        ShardRing z = new ShardRing(1, 1);
        z.join(5, 16);
        z.step();
        z.leave(0);
        due("12 of the only member", () -> z.owner(E), 5);
        due("12 of the only member, behind its last point", () -> z.owner(-541469395), 5);
    }

    private static void home() {
        ShardRing x = moving();
        due("13 NEW", () -> x.home(A), 1);
        due("13 stays", () -> x.home(D), 1);
        due("13 not in the plan, new owner", () -> x.home(1566870285), 2);
        x.step();
        due("13 COPIED", () -> x.home(A), 1);
        x.step();
        due("13 FLIPPED", () -> x.home(A), 2);
        x.step();
        due("13 GONE", () -> x.home(A), 2);
        due("13 the next one", () -> x.home(B), 1);
        x.remove(B);
        due("13 of a NEW key that is not there", () -> x.home(B), 1);
        due("13 put again", () -> x.put(B, 3), 1);
        due("13 at its source", () -> x.holds(1, B), true);
    }

    private static void state() {
        ShardRing x = loaded();
        due("14 no plan", () -> x.state(A), ShardRing.OTHER);
        x.join(2, 1);
        due("14 A", () -> x.state(A), ShardRing.NEW);
        due("14 D stays", () -> x.state(D), ShardRing.OTHER);
        due("14 nowhere", () -> x.state(1566870285), ShardRing.OTHER);
        x.put(1566870285, 1);
        due("14 put while moving", () -> x.state(1566870285), ShardRing.OTHER);
        x.remove(C);
        due("14 removed", () -> x.state(C), ShardRing.NEW);
        x.step();
        due("14 A copied", () -> x.state(A), ShardRing.COPIED);
        due("14 B not", () -> x.state(B), ShardRing.NEW);
        x.step();
        due("14 A flipped", () -> x.state(A), ShardRing.FLIPPED);
        due("14 B not yet", () -> x.state(B), ShardRing.NEW);
        x.step();
        due("14 A gone", () -> x.state(A), ShardRing.GONE);
        for (int i = 0; i < 7; i++) {
            x.step();
        }
        due("14 ended", () -> x.state(A), ShardRing.OTHER);
    }

    private static void holds() {
        ShardRing x = loaded();
        due("15 node below", () -> x.holds(-1, A), BOUNDS);
        due("15 node above", () -> x.holds(8, A), BOUNDS);
        due("15 yes", () -> x.holds(1, A), true);
        due("15 no", () -> x.holds(0, A), false);
        due("15 no member", () -> x.holds(7, A), false);
        due("15 key 0, that is there", () -> x.holds(0, 0), true);
        due("15 key 0, that is not there", () -> x.holds(1, 0), false);
    }

    private static void size() {
        ShardRing x = loaded();
        due("16 node below", () -> x.size(-1), BOUNDS);
        due("16 node above", () -> x.size(8), BOUNDS);
        due("16 node 0", () -> x.size(0), 1);
        due("16 node 1", () -> x.size(1), 4);
        due("16 node 7", () -> x.size(7), 0);
        x.put(A, 5);
        due("16 put again", () -> x.size(1), 4);
        x.remove(A);
        due("16 removed", () -> x.size(1), 3);
        ShardRing y = new ShardRing(1, 1);
        for (int i = 0; i < 256; i++) {
            y.put(-7 * i, i);
        }
        due("16 all at one node", () -> y.size(0), 256);
        due("17 the least of them", () -> y.key(0, 0), -7 * 255);
        due("17 the greatest of them", () -> y.key(0, 255), 0);
        due("4 the least one's value", () -> y.get(-7 * 255), 255);
    }

    private static void key() {
        ShardRing x = loaded();
        due("17 node below", () -> x.key(-1, 0), BOUNDS);
        due("17 node above", () -> x.key(8, 0), BOUNDS);
        due("17 first", () -> x.key(1, 0), A);
        due("17 second", () -> x.key(1, 1), B);
        due("17 third", () -> x.key(1, 2), D);
        due("17 last", () -> x.key(1, 3), C);
        due("17 behind the last", () -> x.key(1, 4), BOUNDS);
        due("17 before the first", () -> x.key(1, -1), BOUNDS);
        due("17 far off", () -> x.key(1, Integer.MAX_VALUE), BOUNDS);
        due("17 an empty store", () -> x.key(7, 0), BOUNDS);
        x.remove(B);
        due("17 moved up", () -> x.key(1, 1), D);
        due("17 one less", () -> x.key(1, 3), BOUNDS);
    }

    private static void points() {
        ShardRing x = new ShardRing(2, 3);
        due("18 node below", () -> x.points(-1), BOUNDS);
        due("18 node above", () -> x.points(8), BOUNDS);
        due("18 a member", () -> x.points(1), 3);
        due("18 no member", () -> x.points(7), 0);
        x.join(7, 9);
        due("18 joined", () -> x.points(7), 9);
        x.step();
        x.leave(1);
        due("18 left", () -> x.points(1), 0);
    }

    private static void count() {
        ShardRing x = loaded();
        due("19 below", () -> x.count(-1), ARGUMENT);
        due("19 above", () -> x.count(3), ARGUMENT);
        due("19 keys", () -> x.count(0), 5);
        due("19 no plan", () -> x.count(1), -1);
        due("19 no plan, FLIPPED", () -> x.count(2), -1);
        x.join(2, 1);
        int[] left = {3, 3, 2, 2, 2, 1, 1, 1, 0};
        int[] flipped = {0, 1, 0, 0, 1, 0, 0, 1, 0};
        for (int i = 0; i < 9; i++) {
            x.step();
            int at = i;
            due("19 keys after step " + i, () -> x.count(0), 5);
            due("19 not GONE after step " + i, () -> x.count(1), left[at]);
            due("19 FLIPPED after step " + i, () -> x.count(2), flipped[at]);
        }
        x.fail(0);
        x.step();
        due("19 off and wrong", () -> x.count(3), ARGUMENT);
        due("19 off", () -> x.count(0), STATE);
        x.recover();
        due("19 not GONE after recovery", () -> x.count(1), 3);
        due("19 FLIPPED after recovery", () -> x.count(2), 3);
    }

    private static void written() {
        ShardRing x = moving();
        due("20 writes", () -> x.written(false), 6);
        due("20 records", () -> x.written(true), 1);
        due("20 a call that throws writes nothing", () -> x.join(1, 1), STATE);
        due("20 writes after that", () -> x.written(false), 6);
        x.fail(1);
        x.step();
        x.step();
        due("20 writes without power", () -> x.written(false), 7);
        due("20 records without power", () -> x.written(true), 1);
        x.recover();
        for (int i = 0; i < 10; i++) {
            x.step();
        }
        due("20 writes after all", () -> x.written(false), 17);
        due("20 records after all", () -> x.written(true), 5);
    }

    private static void share() {
        ShardRing x = new ShardRing(3, 1);
        due("21 node below", () -> x.share(-1), BOUNDS);
        due("21 node above", () -> x.share(8), BOUNDS);
        due("21 node 0", () -> x.share(0), 337473059L);
        due("21 node 1", () -> x.share(1), 337473059L);
        due("21 node 2", () -> x.share(2), 1472537530L);
        due("21 no member", () -> x.share(3), 0L);
        x.leave(2);
        due("21 node 2, by the new members", () -> x.share(2), 0L);
        due("21 node 1, by the new members", () -> x.share(1), 1810010589L);
        ShardRing y = new ShardRing(1, 1);
        due("21 one point", () -> y.share(0), 2147483648L);
        ShardRing z = new ShardRing(1, 16);
        due("21 all points", () -> z.share(0), 2147483648L);
        ShardRing w = new ShardRing(8, 16);
        long sum = 0;
        for (int node = 0; node < 8; node++) {
            sum += w.share(node);
        }
        long all = sum;
        due("21 all nodes", () -> all, 2147483648L);
    }

    private static void withoutPower() {
        ShardRing x = moving();
        x.step();
        x.fail(0);
        due("2 the power fails", () -> x.put(A, 100), -9);
        due("2 off", () -> x.put(A, 1), STATE);
        due("3 off", () -> x.remove(A), STATE);
        due("3 off, nothing there", () -> x.remove(77), STATE);
        due("4 off", () -> x.get(A), STATE);
        due("4 off, nothing there", () -> x.get(77), STATE);
        due("7 off", x::step, STATE);
        due("10 off", x::off, true);
        due("11 off", () -> x.place(1), 1327217884);
        due("12 off", () -> x.owner(A), STATE);
        due("13 off", () -> x.home(A), STATE);
        due("14 off", () -> x.state(A), STATE);
        due("15 off", () -> x.holds(2, A), true);
        due("15 off, node wrong", () -> x.holds(8, A), BOUNDS);
        due("16 off", () -> x.size(1), 4);
        due("16 off, node wrong", () -> x.size(8), BOUNDS);
        due("17 off", () -> x.key(2, 0), A);
        due("17 off, wrong", () -> x.key(2, 1), BOUNDS);
        due("18 off", () -> x.points(2), STATE);
        due("18 off, node wrong", () -> x.points(8), BOUNDS);
        due("19 off", () -> x.count(1), STATE);
        due("20 off", () -> x.written(true), 1);
        due("21 off", () -> x.share(2), STATE);
        due("21 off, node wrong", () -> x.share(8), BOUNDS);
        due("9 all that changed nothing", x::recover, 3);
        due("4 the value", () -> x.get(A), 1);
    }

    /** Nodes 0 and 1 with a point each; A, B, C, D at node 1 with values 1 .. 4, E at node 0 with 5. */
    private static ShardRing loaded() {
        ShardRing x = new ShardRing(2, 1);
        load(x);
        return x;
    }

    private static void load(ShardRing x) {
        x.put(C, 3);
        x.put(A, 1);
        x.put(D, 4);
        x.put(B, 2);
        x.put(E, 5);
    }

    /** As loaded, and node 2 has joined: A, B, C are NEW, from 1 to 2. */
    private static ShardRing moving() {
        ShardRing x = loaded();
        x.join(2, 1);
        return x;
    }

    private static void finish(ShardRing x, int keys) {
        for (int i = 0; i < 3 * keys + 1; i++) {
            x.step();
        }
    }

    private static boolean told(ShardRing x, int n) {
        x.fail(n);
        return true;
    }

    private static void due(String what, Call call, Object want) {
        calls++;
        Object got;
        try {
            got = call.run();
        } catch (RuntimeException e) {
            got = e.getClass();
        }
        if (!got.equals(want)) {
            wrong++;
            System.out.println(what + ": answered " + got + ", due is " + want);
        }
    }
}
