import java.util.ArrayList;
import java.util.List;
import java.util.function.Function;
import java.util.function.Supplier;

/** The sentences on failing, recovering and on what was written (promises 8, 9, 10, 20). */
public final class PowerBoundaryTests {
    private static final int A = Rings.A, B = Rings.B, C = Rings.C, D = Rings.D, E = Rings.E;
    private static final int LEAST = Integer.MIN_VALUE, GREATEST = Integer.MAX_VALUE;

    private PowerBoundaryTests() {
    }

    public static void main(String[] args) {
        all();
        Checks.end();
    }

    static void all() {
        tellings();
        singleWrites();
        halfDone();
        recoveries();
        whatIsLost();
        wholeMoves();
        offAndWritten();
    }

    private static void tellings() {
        Checks.sentence("Promise 8: so many writes more are done, 0", PowerBoundaryTests::failAtOnce);
        Checks.sentence("Promise 8: so many writes more are done, some", PowerBoundaryTests::failLater);
        Checks.sentence("Promise 8: so many writes more are done, the most", PowerBoundaryTests::failMuchLater);
        Checks.sentence("Promise 8: NONE: it doesn't", PowerBoundaryTests::failNever);
        Checks.sentence("Promise 8: n is below -1", PowerBoundaryTests::failBelow);
        Checks.sentence("Promise 8: what is told last holds", PowerBoundaryTests::failToldAnew);
        Checks.sentence("Promise 8, Terms: only writes are counted", PowerBoundaryTests::failCountsWrites);
        Checks.sentence("Promise 8, Terms: records are writes", PowerBoundaryTests::failCountsRecords);
        Checks.sentence("Promise 8, Terms: power fails before a write, not by the telling", PowerBoundaryTests::failBeforeAWrite);
    }

    private static void failAtOnce() {
        ShardRing x = Rings.told(new ShardRing(2, 1), 0);
        Checks.due("the first write", () -> x.put(A, 1), -9);
        Checks.due("writes", () -> x.written(false), 0);
    }

    private static void failLater() {
        for (int n = 1; n <= 4; n++) {
            ShardRing x = Rings.told(new ShardRing(2, 1), n);
            for (int i = 0; i < n; i++) {
                int key = i;
                Checks.due("fail(" + n + "), write " + i, () -> x.put(key, 1), 1);
            }
            Checks.due("fail(" + n + "), off", x::off, false);
            Checks.due("fail(" + n + "), the next write", () -> x.put(A, 1), -9);
            Checks.due("fail(" + n + "), writes", () -> x.written(false), n);
        }
    }

    private static void failMuchLater() {
        ShardRing x = Rings.told(new ShardRing(2, 1), GREATEST);
        for (int i = 0; i < 300; i++) {
            x.put(i % 3, i);
        }
        Checks.due("still on", x::off, false);
        Checks.due("writes", () -> x.written(false), 300);
    }

    private static void failNever() {
        ShardRing x = Rings.told(Rings.told(Rings.loaded(), 0), ShardRing.NONE);
        Checks.due("told off", () -> x.put(A, 2), 0);
        ShardRing y = Rings.told(Rings.told(Rings.loaded(), 1), ShardRing.NONE);
        y.put(A, 2);
        Checks.due("told off before the second", () -> y.put(A, 3), 0);
        ShardRing z = Rings.told(Rings.loaded(), ShardRing.NONE);
        for (int i = 0; i < 20; i++) {
            z.put(A, i);
        }
        Checks.due("nothing was told", () -> z.written(false), 25);
    }

    private static void failBelow() {
        for (int n : new int[] {-2, -9, LEAST}) {
            Checks.refused("fail(" + n + ")", Rings::loaded, x -> Rings.fail(x, n), Checks.ARGUMENT);
            Checks.refused("fail(" + n + ") when told", () -> Rings.told(Rings.loaded(), 1), x -> Rings.fail(x, n), Checks.ARGUMENT);
        }
        ShardRing x = Rings.loaded();
        Checks.due("fail(-1)", () -> Rings.fail(x, -1), "told");
    }

    private static void failToldAnew() {
        ShardRing x = Rings.told(Rings.told(Rings.loaded(), 0), 1);
        Checks.due("later, the first write", () -> x.put(A, 2), 0);
        Checks.due("later, the second write", () -> x.put(A, 3), -9);
        ShardRing y = Rings.told(Rings.told(Rings.loaded(), 5), 0);
        Checks.due("sooner", () -> y.put(A, 2), -9);
    }

    private static void failCountsWrites() {
        ShardRing x = Rings.told(Rings.moving(2), 1);
        Checks.due("get", () -> x.get(A), 1);
        Checks.due("a refused get", () -> x.get(77), Checks.MISSING);
        Checks.due("remove of nothing", () -> x.remove(77), 0);
        Checks.due("a refused join", () -> x.join(2, 1), Checks.STATE);
        Checks.due("a refused leave", () -> x.leave(3), Checks.STATE);
        Checks.due("a refused count", () -> x.count(3), Checks.ARGUMENT);
        Checks.due("a refused recover", x::recover, Checks.STATE);
        Checks.due("looking", () -> x.count(0) + x.size(1) + x.home(A) + x.owner(A), 5 + 4 + 2 + 2);
        Checks.due("the one write", x::step, ShardRing.GONE);
        Checks.due("then it fails", x::step, -9);
    }

    private static void failCountsRecords() {
        ShardRing x = Rings.told(Rings.loaded(), 2);
        Checks.due("a record of the plan", () -> x.join(2, 1), 3);
        Checks.due("a write", x::step, ShardRing.COPIED);
        Checks.due("a record of flipping", x::step, -9);
        Checks.due("records", () -> x.written(true), 1);
        ShardRing y = Rings.told(Rings.planOfNoKeys(), 1);
        Checks.due("a record of the end", y::step, ShardRing.OTHER);
        Checks.due("a record of leaving", () -> y.leave(2), -9);
    }

    private static void failBeforeAWrite() {
        ShardRing x = Rings.told(Rings.loaded(), 0);
        Checks.due("off", x::off, false);
        Checks.due("get", () -> x.get(A), 1);
        Checks.due("count(0)", () -> x.count(0), 5);
        Checks.due("points(0)", () -> x.points(0), 1);
        x.put(A, 2);
        Checks.due("off then", x::off, true);
    }

    private static void singleWrites() {
        Checks.sentence("Promise 2: FAILED, before each write of put", PowerBoundaryTests::putFails);
        Checks.sentence("Promise 3: FAILED, before each write of remove", PowerBoundaryTests::removeFails);
        Checks.sentence("Promise 5: FAILED, before the write of join", PowerBoundaryTests::joinFails);
        Checks.sentence("Promise 6: FAILED, before the write of leave", PowerBoundaryTests::leaveFails);
        Checks.sentence("Promise 7: FAILED, before each kind of step", PowerBoundaryTests::stepFails);
        Checks.sentence("Promise 20, Terms: calls that write nothing never fail", PowerBoundaryTests::othersNeverFail);
    }

    private static void putFails() {
        failsBeforeEach("a new key", Rings::loaded, x -> x.put(77, 9), 1, 1);
        failsBeforeEach("a key that is there", Rings::loaded, x -> x.put(A, 9), 0, 1);
        failsBeforeEach("outside the plan", () -> Rings.moving(1), x -> x.put(Rings.LATE, 9), 1, 1);
        failsBeforeEach("NEW", () -> Rings.moving(0), x -> x.put(A, 9), 0, 1);
        failsBeforeEach("COPIED", () -> Rings.moving(1), x -> x.put(A, 9), 0, 2);
        failsBeforeEach("COPIED, not there", PowerBoundaryTests::copiedAndRemoved, x -> x.put(A, 9), 1, 2);
        failsBeforeEach("FLIPPED", () -> Rings.moving(2), x -> x.put(A, 9), 0, 1);
        failsBeforeEach("GONE", () -> Rings.moving(3), x -> x.put(A, 9), 0, 1);
    }

    private static ShardRing copiedAndRemoved() {
        ShardRing x = Rings.moving(1);
        x.remove(A);
        return x;
    }

    private static void removeFails() {
        failsBeforeEach("a key", Rings::loaded, x -> x.remove(A), 1, 1);
        failsBeforeEach("nothing", Rings::loaded, x -> x.remove(77), 0, 0);
        failsBeforeEach("NEW", () -> Rings.moving(0), x -> x.remove(A), 1, 1);
        failsBeforeEach("COPIED", () -> Rings.moving(1), x -> x.remove(A), 1, 2);
        failsBeforeEach("COPIED, nothing", PowerBoundaryTests::copiedAndRemoved, x -> x.remove(A), 0, 0);
        failsBeforeEach("FLIPPED", () -> Rings.moving(2), x -> x.remove(A), 1, 1);
        failsBeforeEach("GONE", () -> Rings.moving(3), x -> x.remove(A), 1, 1);
    }

    private static void joinFails() {
        failsBeforeEach("join", Rings::loaded, x -> x.join(2, 1), 3, 1);
        failsBeforeEach("join, a plan of no keys", () -> new ShardRing(2, 1), x -> x.join(2, 1), 0, 1);
        ShardRing x = Rings.told(Rings.loaded(), 0);
        x.join(2, 1);
        Checks.due("no record", () -> x.written(true), 0);
        Checks.due("recover, no plan", x::recover, -1);
        Checks.due("all as before", () -> Rings.seen(x), Rings.seen(Rings.loaded()));
    }

    private static void leaveFails() {
        failsBeforeEach("leave", Rings::loaded, x -> x.leave(1), 4, 1);
        failsBeforeEach("leave, a plan of no keys", () -> new ShardRing(2, 1), x -> x.leave(1), 0, 1);
        ShardRing x = Rings.told(Rings.loaded(), 0);
        x.leave(1);
        Checks.due("no record", () -> x.written(true), 0);
        Checks.due("recover, no plan", x::recover, -1);
        Checks.due("all as before", () -> Rings.seen(x), Rings.seen(Rings.loaded()));
    }

    private static void stepFails() {
        failsBeforeEach("NEW", () -> Rings.moving(0), ShardRing::step, ShardRing.COPIED, 1);
        failsBeforeEach("COPIED", () -> Rings.moving(1), ShardRing::step, ShardRing.FLIPPED, 1);
        failsBeforeEach("FLIPPED", () -> Rings.moving(2), ShardRing::step, ShardRing.GONE, 1);
        failsBeforeEach("all GONE", Rings::allGone, ShardRing::step, ShardRing.OTHER, 1);
        failsBeforeEach("no keys", Rings::planOfNoKeys, ShardRing::step, ShardRing.OTHER, 1);
        failsBeforeEach("nothing to take off", () -> Rings.restarted(Rings.moving(3)), ShardRing::step, ShardRing.GONE, 1);
    }

    private static void othersNeverFail() {
        failsBeforeEach("get", () -> Rings.moving(1), x -> x.get(A), 1, 0);
        failsBeforeEach("owner", () -> Rings.moving(1), x -> x.owner(A), 2, 0);
        failsBeforeEach("home", () -> Rings.moving(1), x -> x.home(A), 1, 0);
        failsBeforeEach("state", () -> Rings.moving(1), x -> x.state(A), 2, 0);
        failsBeforeEach("count", () -> Rings.moving(1), x -> x.count(1), 3, 0);
        failsBeforeEach("fail", () -> Rings.moving(1), x -> Rings.fail(x, 0), "told", 0);
        failsBeforeEach("share", () -> Rings.moving(1), x -> x.share(3), 0L, 0);
    }

    /** A call of so many writes ends before each of them, if that is told, and else does them all. */
    private static void failsBeforeEach(String what, Supplier<ShardRing> make, Function<ShardRing, Object> call,
            Object answer, int writes) {
        for (int n = 0; n <= writes; n++) {
            ShardRing x = make.get();
            int before = x.written(false);
            boolean fails = n < writes;
            x.fail(n);
            Checks.due(what + ", fail(" + n + ")", () -> call.apply(x), fails ? (Object) ShardRing.FAILED : answer);
            Checks.due(what + ", fail(" + n + "), off", x::off, fails);
            Checks.due(what + ", fail(" + n + "), writes", () -> x.written(false), before + n);
        }
    }

    private static void halfDone() {
        Checks.sentence("Promise 2, Terms: the call ends there, its other writes are not done", PowerBoundaryTests::putHalfDone);
        Checks.sentence("Promise 3, Terms: the call ends there, its other writes are not done", PowerBoundaryTests::removeHalfDone);
        Checks.sentence("Promise 7, Terms: a write is done wholly or not", PowerBoundaryTests::stepNotDone);
    }

    private static void putHalfDone() {
        ShardRing none = Rings.told(copiedAndRemoved(), 0);
        none.put(A, 9);
        Checks.due("before the first, the source", () -> none.holds(1, A), false);
        Checks.due("before the first, the target", () -> none.holds(2, A), false);
        ShardRing half = Rings.told(copiedAndRemoved(), 1);
        half.put(A, 9);
        Checks.due("before the second, the source", () -> half.holds(1, A), true);
        Checks.due("before the second, the target", () -> half.holds(2, A), false);
        half.recover();
        Checks.due("before the second, recovered", () -> half.get(A), 9);
        Checks.due("before the second, keys", () -> half.count(0), 5);
        ShardRing again = Rings.told(Rings.moving(1), 1);
        again.put(A, 9);
        again.recover();
        Rings.finish(again, 3);
        Checks.due("before the second, moved then", () -> again.get(A), 9);
    }

    private static void removeHalfDone() {
        ShardRing none = Rings.told(Rings.moving(1), 0);
        none.remove(A);
        Checks.due("before the first, the source", () -> none.holds(1, A), true);
        Checks.due("before the first, the target", () -> none.holds(2, A), true);
        none.recover();
        Checks.due("before the first, keys", () -> none.count(0), 5);
        ShardRing half = Rings.told(Rings.moving(1), 1);
        half.remove(A);
        Checks.due("before the second, the source", () -> half.holds(1, A), false);
        Checks.due("before the second, the target", () -> half.holds(2, A), true);
        half.recover();
        Checks.due("before the second, recovered", () -> half.get(A), Checks.MISSING);
        Checks.due("before the second, keys", () -> half.count(0), 4);
        Rings.finish(half, 3);
        Checks.due("before the second, moved then", () -> half.holds(2, A), false);
    }

    private static void stepNotDone() {
        ShardRing copying = Rings.told(Rings.moving(0), 0);
        copying.step();
        Checks.due("copying", () -> copying.holds(2, A), false);
        ShardRing flipping = Rings.told(Rings.moving(1), 0);
        flipping.step();
        Checks.due("flipping, records", () -> flipping.written(true), 1);
        Checks.due("flipping, NEW keys", flipping::recover, 3);
        ShardRing taking = Rings.told(Rings.moving(2), 0);
        taking.step();
        Checks.due("taking off", () -> taking.holds(1, A), true);
        ShardRing ending = Rings.told(Rings.allGone(), 0);
        ending.step();
        Checks.due("ending, records", () -> ending.written(true), 4);
        Checks.due("ending, a plan without a NEW key", ending::recover, 0);
    }

    private static void recoveries() {
        Checks.sentence("Promise 9: recovered, if the power is off", PowerBoundaryTests::recoverTurnsOn);
        Checks.sentence("Promise 9: nothing is told to fail then", PowerBoundaryTests::recoverTellsNothing);
        Checks.sentence("Promise 9: how many keys of the plan are NEW", PowerBoundaryTests::recoverAnswers);
        Checks.sentence("Promise 9: NONE without one", PowerBoundaryTests::recoverWithoutPlan);
        Checks.sentence("Promise 9: the power is on", PowerBoundaryTests::recoverWithPower);
        Checks.sentence("Promise 9: recovering writes nothing", PowerBoundaryTests::recoverWritesNothing);
    }

    private static void recoverTurnsOn() {
        ShardRing x = Rings.cut(Rings.loaded());
        Checks.due("recover", x::recover, -1);
        Checks.due("off", x::off, false);
        Checks.due("get", () -> x.get(A), 1);
        Checks.due("it can fail again", () -> Rings.cut(x).off(), true);
        Checks.due("and recover again", x::recover, -1);
    }

    private static void recoverTellsNothing() {
        ShardRing x = Rings.restarted(Rings.loaded());
        for (int i = 0; i < 5; i++) {
            Checks.due("a write", () -> x.put(A, 2), 0);
        }
    }

    private static void recoverAnswers() {
        int[] left = {3, 3, 2, 2, 2, 1, 1, 1, 0, 0};
        for (int steps = 0; steps < left.length; steps++) {
            ShardRing x = Rings.cut(Rings.moving(steps));
            Checks.due("after " + steps + " steps", x::recover, left[steps]);
            Checks.due("after " + steps + " steps and once more", () -> Rings.cut(x).recover(), left[steps]);
        }
        ShardRing empty = Rings.cut(Rings.planOfNoKeys());
        Checks.due("of no keys", empty::recover, 0);
        ShardRing removed = Rings.moving(0);
        removed.remove(A);
        Checks.due("a removed key is NEW too", () -> Rings.cut(removed).recover(), 3);
    }

    private static void recoverWithoutPlan() {
        Checks.due("never one", () -> Rings.cut(Rings.loaded()).recover(), -1);
        Checks.due("it has ended", () -> Rings.cut(Rings.moving(10)).recover(), -1);
    }

    private static void recoverWithPower() {
        Checks.refused("a new object", () -> new ShardRing(2, 1), ShardRing::recover, Checks.STATE);
        Checks.refused("told to fail", () -> Rings.told(Rings.loaded(), 1), ShardRing::recover, Checks.STATE);
        Checks.refused("with a plan", () -> Rings.moving(4), ShardRing::recover, Checks.STATE);
        Checks.refused("recovered", () -> Rings.restarted(Rings.moving(4)), ShardRing::recover, Checks.STATE);
    }

    private static void recoverWritesNothing() {
        ShardRing x = Rings.cut(Rings.moving(4));
        x.recover();
        Checks.due("writes", () -> x.written(false), 10);
        Checks.due("records", () -> x.written(true), 2);
    }

    private static void whatIsLost() {
        Checks.sentence("Promise 9, Terms: what is only known (COPIED, GONE) is lost", PowerBoundaryTests::lostStates);
        Checks.sentence("Promise 9, Terms: a key that is not FLIPPED is NEW", PowerBoundaryTests::copiedIsNew);
        Checks.sentence("Promise 9, Terms: one that was GONE is FLIPPED", PowerBoundaryTests::goneIsFlipped);
        Checks.sentence("Promise 9, Terms: the members come from the log", PowerBoundaryTests::recoveredMembers);
        Checks.sentence("Promise 9, Terms: the plan comes from the log", PowerBoundaryTests::recoveredPlan);
        Checks.sentence("Promise 9, Terms: which keys are FLIPPED comes from the log", PowerBoundaryTests::recoveredFlipped);
        Checks.sentence("Promise 9, Terms: the stores are what was written", PowerBoundaryTests::recoveredStores);
    }

    private static void lostStates() {
        ShardRing x = Rings.restarted(Rings.moving(4));
        Checks.due("GONE", () -> x.state(A), ShardRing.FLIPPED);
        Checks.due("COPIED", () -> x.state(B), ShardRing.NEW);
        Checks.due("NEW", () -> x.state(C), ShardRing.NEW);
        Checks.due("OTHER", () -> x.state(D), ShardRing.OTHER);
        Checks.due("not GONE", () -> x.count(1), 3);
        Checks.due("FLIPPED", () -> x.count(2), 1);
    }

    private static void copiedIsNew() {
        ShardRing x = Rings.restarted(Rings.moving(1));
        Checks.due("state", () -> x.state(A), ShardRing.NEW);
        Checks.due("a put then", () -> x.put(A, 9), 0);
        Checks.due("is one write", () -> x.written(false), 8);
        Checks.due("step", x::step, ShardRing.COPIED);
        ShardRing alone = Rings.restarted(Rings.moving(7));
        Checks.due("the last key", () -> alone.state(C), ShardRing.NEW);
        Checks.due("the first step is for A", alone::step, ShardRing.GONE);
    }

    private static void goneIsFlipped() {
        ShardRing x = Rings.restarted(Rings.allGone());
        for (int key : new int[] {A, B, C}) {
            Checks.due("state of " + key, () -> x.state(key), ShardRing.FLIPPED);
        }
        for (int i = 0; i < 3; i++) {
            Checks.due("step " + i, x::step, ShardRing.GONE);
        }
        Checks.due("the end", x::step, ShardRing.OTHER);
        Checks.due("all keys are there", () -> x.count(0), 5);
    }

    private static void recoveredMembers() {
        ShardRing joined = Rings.restarted(Rings.moving(0));
        Checks.due("joined, a plan", () -> joined.points(2), 1);
        ShardRing ended = Rings.restarted(Rings.moving(10));
        Checks.due("joined, the plan has ended", () -> ended.points(2), 1);
        ended.leave(2);
        Rings.restarted(ended);
        Checks.due("left", () -> ended.points(2), 0);
        Checks.due("a first member", () -> ended.points(1), 1);
        Checks.due("the owner", () -> ended.owner(B), 1);
    }

    private static void recoveredPlan() {
        ShardRing x = Rings.loaded();
        x.join(2, 1);
        x.remove(B);
        x.put(Rings.LATE, 1);
        Rings.restarted(x);
        Checks.due("a key removed since then is in it", () -> x.state(B), ShardRing.NEW);
        Checks.due("a key put since then is not", () -> x.state(Rings.LATE), ShardRing.OTHER);
        Checks.due("not GONE", () -> x.count(1), 3);
        Checks.due("the source", () -> x.home(A), 1);
        ShardRing empty = Rings.restarted(Rings.planOfNoKeys());
        Checks.due("of no keys", () -> empty.count(1), 0);
        ShardRing ended = Rings.restarted(Rings.moving(10));
        Checks.due("ended", () -> ended.count(1), -1);
    }

    private static void recoveredFlipped() {
        ShardRing x = Rings.restarted(Rings.moving(5));
        Checks.due("A, GONE before", () -> x.state(A), ShardRing.FLIPPED);
        Checks.due("B, FLIPPED before", () -> x.state(B), ShardRing.FLIPPED);
        Checks.due("C, NEW before", () -> x.state(C), ShardRing.NEW);
        Checks.due("A's home", () -> x.home(A), 2);
        Checks.due("A is gone first", x::step, ShardRing.GONE);
        Checks.due("then B", x::step, ShardRing.GONE);
        Checks.due("then C is copied", x::step, ShardRing.COPIED);
        Checks.due("B is gone", () -> x.state(B), ShardRing.GONE);
    }

    private static void recoveredStores() {
        ShardRing x = Rings.restarted(Rings.moving(4));
        Checks.due("B is copied still", () -> x.holds(2, B), true);
        Checks.due("A is off its source still", () -> x.holds(1, A), false);
        Checks.due("A's value", () -> x.get(A), 1);
        Checks.due("E's value, whose put failed", () -> x.get(E), 5);
        Checks.due("keys", () -> x.count(0), 5);
    }

    private static void wholeMoves() {
        Checks.sentence("Promise 9: all goes on from what was written, the power failing before each write of a move",
            PowerBoundaryTests::moveFailsBeforeEach);
        Checks.sentence("Promise 9: all goes on from what was written, the power failing again and again",
            PowerBoundaryTests::moveFailsOften);
    }

    private static void moveFailsBeforeEach() {
        List<Object> due = moved(new ShardRing(2, 1), -1, -1);
        for (int n = 0; n < 60; n++) {
            int at = n;
            Checks.due("fail(" + n + ")", () -> moved(new ShardRing(2, 1), at, -1), due);
        }
    }

    private static void moveFailsOften() {
        List<Object> due = moved(new ShardRing(2, 1), -1, -1);
        // A plan of three keys needs three writes in a row for GONE keys and up to three for the next one.
        for (int n = 6; n < 30; n++) {
            int every = n;
            Checks.due("again after " + n, () -> moved(new ShardRing(2, 1), every, every), due);
        }
    }

    /** Keys are put, move to node 2 and back, and change meanwhile; the values and stores in the end. */
    private static List<Object> moved(ShardRing x, int first, int again) {
        x.fail(first);
        for (int key : new int[] {A, B, C, D, E}) {
            insist(x, again, () -> x.put(key, 1));
        }
        insist(x, again, () -> x.join(2, 1));
        insist(x, again, x::step);
        insist(x, again, () -> x.put(A, 2));
        insist(x, again, () -> x.remove(B));
        insist(x, again, x::step);
        insist(x, again, x::step);
        insist(x, again, () -> x.put(A, 3));
        insist(x, again, () -> x.put(Rings.LATE, 4));
        insist(x, again, () -> x.remove(C));
        stepToTheEnd(x, again);
        insist(x, again, () -> x.leave(2));
        insist(x, again, () -> x.put(Rings.LATE, 5));
        stepToTheEnd(x, again);
        x.fail(ShardRing.NONE);
        List<Object> all = new ArrayList<>();
        for (int key : new int[] {A, B, C, D, E, Rings.LATE}) {
            all.add(Checks.answer(() -> x.get(key)));
            all.add(Rings.holders(x, key));
        }
        all.add(x.count(0));
        return all;
    }

    /** What fails is done again when the power is back. */
    private static void insist(ShardRing x, int again, Checks.Call call) {
        for (int i = 0; i < 5 && Integer.valueOf(ShardRing.FAILED).equals(call.run()); i++) {
            x.recover();
            x.fail(again);
        }
    }

    private static void stepToTheEnd(ShardRing x, int again) {
        for (int i = 0; i < 60 && x.count(1) != ShardRing.NONE; i++) {
            insist(x, again, x::step);
        }
    }

    private static void offAndWritten() {
        Checks.sentence("Promise 10: whether the power is off", PowerBoundaryTests::offStates);
        Checks.sentence("Promise 20: how many writes were done", PowerBoundaryTests::writesDone);
        Checks.sentence("Promise 20: how many records are in the log", PowerBoundaryTests::recordsInTheLog);
        Checks.sentence("Promise 20: also without power", PowerBoundaryTests::writtenWithoutPower);
        Checks.sentence("Promise 20, Terms: a write that failed is not done", PowerBoundaryTests::failedIsNotWritten);
    }

    private static void offStates() {
        ShardRing x = new ShardRing(1, 1);
        Checks.due("new", x::off, false);
        x.fail(0);
        Checks.due("told", x::off, false);
        x.put(0, 0);
        Checks.due("failed", x::off, true);
        Checks.due("asked again", x::off, true);
        x.recover();
        Checks.due("recovered", x::off, false);
    }

    private static void writesDone() {
        ShardRing x = new ShardRing(2, 1);
        Checks.due("none", () -> x.written(false), 0);
        x.put(A, 1);
        Checks.due("put", () -> x.written(false), 1);
        x.join(2, 1);
        Checks.due("join", () -> x.written(false), 2);
        Rings.steps(x, 3);
        Checks.due("three steps", () -> x.written(false), 5);
        x.step();
        Checks.due("the end", () -> x.written(false), 6);
        x.remove(A);
        Checks.due("remove", () -> x.written(false), 7);
        x.remove(A);
        Checks.due("remove of nothing", () -> x.written(false), 7);
        x.leave(2);
        Checks.due("leave", () -> x.written(false), 8);
    }

    private static void recordsInTheLog() {
        int[] records = {1, 1, 2, 2, 2, 3, 3, 3, 4, 4, 5};
        for (int steps = 0; steps < records.length; steps++) {
            ShardRing x = Rings.moving(steps);
            Checks.due("after " + steps + " steps", () -> x.written(true), records[steps]);
        }
        ShardRing y = Rings.moving(10);
        y.leave(2);
        Checks.due("the log goes on", () -> y.written(true), 6);
    }

    private static void writtenWithoutPower() {
        ShardRing x = Rings.cut(Rings.moving(2));
        Checks.due("writes", () -> x.written(false), 8);
        Checks.due("records", () -> x.written(true), 2);
    }

    private static void failedIsNotWritten() {
        ShardRing x = Rings.told(Rings.moving(1), 1);
        x.put(A, 9);
        Checks.due("one of two writes", () -> x.written(false), 8);
        ShardRing y = Rings.told(Rings.moving(1), 0);
        y.step();
        Checks.due("no record", () -> y.written(true), 1);
        Checks.due("no write", () -> y.written(false), 7);
    }
}
