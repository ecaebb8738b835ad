/** The sentences on join, leave, step and on what a plan makes of a key (promises 5, 6, 7, 13, 14, 19). */
public final class PlanBoundaryTests {
    private static final int A = Rings.A, B = Rings.B, C = Rings.C, D = Rings.D, E = Rings.E;
    private static final int LEAST = Integer.MIN_VALUE, GREATEST = Integer.MAX_VALUE;

    private PlanBoundaryTests() {
    }

    public static void main(String[] args) {
        all();
        Checks.end();
    }

    static void all() {
        joins();
        leaves();
        plans();
        stepsOfAKey();
        stepsOfAPlan();
        homesAndStates();
        counts();
    }

    private static void joins() {
        Checks.sentence("Promise 5: a node becomes a member", PlanBoundaryTests::joinedNodes);
        Checks.sentence("Promise 5: how many keys the plan has", PlanBoundaryTests::joinAnswers);
        Checks.sentence("Promise 5: points are 1 .. 16", PlanBoundaryTests::joinWithPoints);
        Checks.sentence("Promise 5: a node that left is no member and may join", PlanBoundaryTests::joinAgain);
        Checks.sentence("Promise 5: all eight nodes", PlanBoundaryTests::joinTheLastNode);
        Checks.sentence("Promise 5, Terms: no store changes", PlanBoundaryTests::joinMovesNothing);
    }

    private static void joinedNodes() {
        ShardRing x = Rings.loaded();
        Checks.due("before", () -> x.points(2), 0);
        x.join(2, 1);
        Checks.due("a member", () -> x.points(2), 1);
        Checks.due("an owner", () -> x.owner(B), 2);
    }

    private static void joinAnswers() {
        ShardRing empty = new ShardRing(1, 1);
        Checks.due("no key is there", () -> empty.join(1, 1), 0);
        ShardRing staying = new ShardRing(2, 1);
        staying.put(D, 1);
        staying.put(E, 1);
        Checks.due("no key moves", () -> staying.join(2, 1), 0);
        ShardRing one = new ShardRing(2, 1);
        one.put(B, 1);
        Checks.due("the only key moves", () -> one.join(2, 1), 1);
        ShardRing all = new ShardRing(1, 1);
        for (int key : new int[] {A, B, C, D}) {
            all.put(key, 1);
        }
        Checks.due("all keys move", () -> all.join(1, 1), 4);
        ShardRing most = new ShardRing(1, 1);
        Rings.putBetween(most, 256);
        Checks.due("256 keys move", () -> most.join(1, 1), 256);
        Checks.due("256 keys are NEW", () -> most.count(1), 256);
    }

    private static void joinWithPoints() {
        for (int points : new int[] {1, 2, 15, 16}) {
            ShardRing x = new ShardRing(1, 1);
            Checks.due("join(7, " + points + ")", () -> x.join(7, points), 0);
            Checks.due("points(7)", () -> x.points(7), points);
        }
        for (int points : new int[] {LEAST, -1, 0, 17, GREATEST}) {
            Checks.refused("join(7, " + points + ")", Rings::loaded, x -> x.join(7, points), Checks.ARGUMENT);
        }
    }

    private static void joinAgain() {
        ShardRing x = Rings.moving(10);
        x.leave(2);
        Rings.finish(x, 3);
        Checks.due("again, with more points", () -> x.join(2, 16) >= 3, true);
        Checks.due("points(2)", () -> x.points(2), 16);
    }

    private static void joinTheLastNode() {
        ShardRing x = new ShardRing(7, 16);
        Checks.due("join(7, 16)", () -> x.join(7, 16), 0);
        x.step();
        for (int node = 0; node < 8; node++) {
            int n = node;
            Checks.due("join(" + n + ", 1)", () -> x.join(n, 1), Checks.STATE);
        }
    }

    private static void joinMovesNothing() {
        ShardRing x = Rings.moving(0);
        Checks.due("node 1", () -> x.size(1), 4);
        Checks.due("node 2", () -> x.size(2), 0);
    }

    private static void leaves() {
        Checks.sentence("Promise 6: a member leaves", PlanBoundaryTests::leftNodes);
        Checks.sentence("Promise 6: how many keys the plan has", PlanBoundaryTests::leaveAnswers);
        Checks.sentence("Promise 6: it is no member", PlanBoundaryTests::leaveOfNoMember);
        Checks.sentence("Promise 6: or the only one", PlanBoundaryTests::leaveOfTheOnlyOne);
        Checks.sentence("Promise 6, Terms: the keys of the last point go round to the first", PlanBoundaryTests::leaveRound);
    }

    private static void leftNodes() {
        ShardRing x = new ShardRing(8, 16);
        x.leave(7);
        Checks.due("points(7)", () -> x.points(7), 0);
        Checks.due("share(7)", () -> x.share(7), 0L);
    }

    private static void leaveAnswers() {
        ShardRing empty = new ShardRing(2, 1);
        Checks.due("no key is there", () -> empty.leave(1), 0);
        ShardRing without = new ShardRing(3, 1);
        without.put(E, 1);
        Checks.due("it has no key", () -> without.leave(2), 0);
        ShardRing some = Rings.loaded();
        Checks.due("it has one of five", () -> some.leave(0), 1);
        ShardRing all = new ShardRing(2, 1);
        Rings.putBetween(all, 256);
        Checks.due("it has all 256", () -> all.leave(1), 256);
        Checks.due("256 keys are NEW", () -> all.count(1), 256);
    }

    private static void leaveOfNoMember() {
        Checks.refused("never one", Rings::loaded, x -> x.leave(2), Checks.STATE);
        Checks.refused("never one, the last node", Rings::loaded, x -> x.leave(7), Checks.STATE);
        Checks.refused("left before", PlanBoundaryTests::leftBefore, x -> x.leave(2), Checks.STATE);
    }

    private static ShardRing leftBefore() {
        ShardRing x = new ShardRing(3, 1);
        x.leave(2);
        x.step();
        return x;
    }

    private static void leaveOfTheOnlyOne() {
        Checks.refused("from the start", Rings::onlyOne, x -> x.leave(0), Checks.STATE);
        Checks.refused("with many points", () -> new ShardRing(1, 16), x -> x.leave(0), Checks.STATE);
        Checks.refused("when the other has left", PlanBoundaryTests::leftAlone, x -> x.leave(1), Checks.STATE);
        ShardRing two = new ShardRing(2, 1);
        Checks.due("one of two", () -> two.leave(0), 0);
    }

    private static ShardRing leftAlone() {
        ShardRing x = Rings.loaded();
        x.leave(0);
        Rings.finish(x, 1);
        return x;
    }

    private static void leaveRound() {
        ShardRing x = new ShardRing(3, 1);
        x.put(D, 4);
        Checks.due("node 1 has the last point", () -> x.leave(1), 1);
        Checks.due("the key's owner", () -> x.owner(D), 0);
        Rings.finish(x, 1);
        Checks.due("node 0 has it", () -> x.holds(0, D), true);
        Checks.due("its value", () -> x.get(D), 4);
    }

    private static void plans() {
        Checks.sentence("Promise 5, Terms: those that were there when it was made", PlanBoundaryTests::keysThatWereThere);
        Checks.sentence("Promise 5, Terms: and have another owner by the new members", PlanBoundaryTests::keysThatMove);
        Checks.sentence("Promise 5, Terms: a plan, perhaps of no keys", PlanBoundaryTests::noKeysAndAPlan);
        Checks.sentence("Promise 5: there is a plan", PlanBoundaryTests::joinWithAPlan);
        Checks.sentence("Promise 6: there is a plan", PlanBoundaryTests::leaveWithAPlan);
        Checks.sentence("Promise 6, Terms: each with a source and a target", PlanBoundaryTests::sourcesAndTargets);
    }

    private static void keysThatWereThere() {
        ShardRing x = Rings.loaded();
        x.remove(B);
        Checks.due("without the one that was removed", () -> x.join(2, 1), 2);
        Checks.due("it is not in the plan", () -> x.state(B), ShardRing.OTHER);
        x.put(B, 7);
        Checks.due("nor when it is put then", () -> x.state(B), ShardRing.OTHER);
        Checks.due("it goes to its new owner", () -> x.holds(2, B), true);
        x.remove(A);
        Checks.due("one that is removed then is in the plan", () -> x.state(A), ShardRing.NEW);
        Checks.due("keys of the plan", () -> x.count(1), 2);
    }

    private static void keysThatMove() {
        ShardRing x = Rings.moving(0);
        Checks.due("one below the new point", () -> x.state(A), ShardRing.NEW);
        Checks.due("at the new point", () -> x.state(B), ShardRing.NEW);
        Checks.due("one above the point before", () -> x.state(C), ShardRing.NEW);
        Checks.due("one above the new point", () -> x.state(D), ShardRing.OTHER);
        Checks.due("another node's", () -> x.state(E), ShardRing.OTHER);
    }

    private static void noKeysAndAPlan() {
        ShardRing x = Rings.planOfNoKeys();
        Checks.due("keys that are not GONE", () -> x.count(1), 0);
        Checks.due("FLIPPED keys", () -> x.count(2), 0);
        Checks.due("a record", () -> x.written(true), 1);
        Checks.due("the new member", () -> x.points(2), 1);
        Checks.due("a step ends it", x::step, ShardRing.OTHER);
        Checks.due("no plan", () -> x.count(1), -1);
        Checks.due("a record of that", () -> x.written(true), 2);
    }

    private static void joinWithAPlan() {
        Checks.refused("all NEW", () -> Rings.moving(0), x -> x.join(3, 1), Checks.STATE);
        Checks.refused("one FLIPPED", () -> Rings.moving(2), x -> x.join(3, 1), Checks.STATE);
        Checks.refused("all GONE", Rings::allGone, x -> x.join(3, 1), Checks.STATE);
        Checks.refused("of no keys", Rings::planOfNoKeys, x -> x.join(3, 1), Checks.STATE);
        ShardRing x = Rings.moving(10);
        Checks.due("when it has ended", () -> x.join(3, 1) >= 0, true);
    }

    private static void leaveWithAPlan() {
        Checks.refused("all NEW", () -> Rings.moving(0), x -> x.leave(1), Checks.STATE);
        Checks.refused("one FLIPPED", () -> Rings.moving(2), x -> x.leave(2), Checks.STATE);
        Checks.refused("all GONE", Rings::allGone, x -> x.leave(0), Checks.STATE);
        Checks.refused("of no keys", Rings::planOfNoKeys, x -> x.leave(2), Checks.STATE);
        ShardRing x = Rings.moving(10);
        Checks.due("when it has ended", () -> x.leave(2), 3);
    }

    private static void sourcesAndTargets() {
        ShardRing x = new ShardRing(8, 16);
        int mine = 0;
        for (int i = 0; i < 60; i++) {
            x.put(Rings.manyKey(i), i);
            mine += x.owner(Rings.manyKey(i)) == 3 ? 1 : 0;
        }
        int keys = mine;
        Checks.due("all keys of the node that leaves", () -> x.leave(3), keys);
        Checks.due("some", () -> keys > 1, true);
        for (int i = 0; i < 60; i++) {
            int key = Rings.manyKey(i);
            if (x.state(key) == ShardRing.NEW) {
                Checks.due("the source of " + key, () -> x.home(key), 3);
            }
        }
        Rings.finish(x, keys);
        for (int i = 0; i < 60; i++) {
            int key = Rings.manyKey(i);
            Checks.due("the target has " + key, () -> x.holds(x.owner(key), key), true);
        }
        Checks.due("the source has none", () -> x.size(3), 0);
    }

    private static void stepsOfAKey() {
        Checks.sentence("Promise 7, Terms: NEW: the target's store gets what the source's has; COPIED",
            PlanBoundaryTests::stepCopies);
        Checks.sentence("Promise 7, Terms: or has nothing, like that one", PlanBoundaryTests::stepCopiesNothing);
        Checks.sentence("Promise 7, Terms: COPIED: a record; it is FLIPPED", PlanBoundaryTests::stepFlips);
        Checks.sentence("Promise 7, Terms: FLIPPED: it is taken off the source's store; GONE", PlanBoundaryTests::stepTakesOff);
        Checks.sentence("Promise 7, Terms: each write also if there is nothing to take off", PlanBoundaryTests::stepTakesOffNothing);
    }

    private static void stepCopies() {
        ShardRing x = Rings.moving(0);
        x.put(A, 9);
        Checks.due("step", x::step, ShardRing.COPIED);
        Checks.due("the source", () -> x.holds(1, A), true);
        Checks.due("the target", () -> x.holds(2, A), true);
        Checks.due("no record", () -> x.written(true), 1);
        Checks.due("one write", () -> x.written(false), 8);
        x.step();
        Checks.due("the value", () -> x.get(A), 9);
        ShardRing again = Rings.restarted(Rings.moving(1));
        again.put(A, 9);
        Checks.due("once more", again::step, ShardRing.COPIED);
        again.step();
        Checks.due("the newer value", () -> again.get(A), 9);
    }

    private static void stepCopiesNothing() {
        ShardRing x = Rings.moving(0);
        x.remove(A);
        Checks.due("neither has it", x::step, ShardRing.COPIED);
        Checks.due("the target", () -> x.holds(2, A), false);
        Checks.due("one write", () -> x.written(false), 8);
        ShardRing beside = Rings.moving(0);
        beside.put(Rings.LATE, 7);
        beside.remove(A);
        beside.step();
        Checks.due("another key of the target", () -> beside.get(Rings.LATE), 7);
        ShardRing again = Rings.restarted(Rings.moving(1));
        again.remove(A);
        Checks.due("the target has an old copy", () -> again.holds(2, A), true);
        Checks.due("only the target has it", again::step, ShardRing.COPIED);
        Checks.due("the target then", () -> again.holds(2, A), false);
        again.step();
        Checks.due("not there", () -> again.get(A), Checks.MISSING);
    }

    private static void stepFlips() {
        ShardRing x = Rings.moving(1);
        Checks.due("step", x::step, ShardRing.FLIPPED);
        Checks.due("a record", () -> x.written(true), 2);
        Checks.due("one write", () -> x.written(false), 8);
        Checks.due("the source", () -> x.holds(1, A), true);
        Checks.due("the home", () -> x.home(A), 2);
    }

    private static void stepTakesOff() {
        ShardRing x = Rings.moving(2);
        Checks.due("step", x::step, ShardRing.GONE);
        Checks.due("the source", () -> x.holds(1, A), false);
        Checks.due("the target", () -> x.holds(2, A), true);
        Checks.due("no record", () -> x.written(true), 2);
        Checks.due("one write", () -> x.written(false), 9);
    }

    private static void stepTakesOffNothing() {
        ShardRing x = Rings.restarted(Rings.moving(3));
        int before = x.written(false);
        Checks.due("GONE once more", x::step, ShardRing.GONE);
        Checks.due("a write", () -> x.written(false), before + 1);
        Checks.due("the other keys of the source", () -> x.size(1), 3);
        Checks.due("the first of them", () -> x.get(B), 2);
        ShardRing y = Rings.told(Rings.restarted(Rings.moving(3)), 0);
        Checks.due("before which the power fails", y::step, -9);
    }

    private static void stepsOfAPlan() {
        Checks.sentence("Promise 7, Terms: the first key of the plan that is not GONE", PlanBoundaryTests::stepOfTheFirst);
        Checks.sentence("Promise 7, Terms: in ascending order", PlanBoundaryTests::stepsAscend);
        Checks.sentence("Promise 7, Terms: if all are GONE: a record; there is no plan any more", PlanBoundaryTests::stepEnds);
        Checks.sentence("Promise 7: OTHER when the plan ended, of no keys", PlanBoundaryTests::stepEndsNoKeys);
        Checks.sentence("Promise 7: there is no plan", PlanBoundaryTests::stepWithoutPlan);
        Checks.sentence("Promise 7: a second plan begins anew", PlanBoundaryTests::stepOfTheNextPlan);
    }

    private static void stepOfTheFirst() {
        ShardRing x = Rings.moving(2);
        Checks.due("A is FLIPPED, B is not looked at", () -> x.state(B), ShardRing.NEW);
        x.step();
        Checks.due("A is GONE, B not looked at", () -> x.state(B), ShardRing.NEW);
        x.step();
        Checks.due("then B", () -> x.state(B), ShardRing.COPIED);
        Checks.due("not A", () -> x.state(A), ShardRing.GONE);
        ShardRing again = Rings.restarted(Rings.moving(8));
        Checks.due("all FLIPPED, the first is taken off", again::step, ShardRing.GONE);
        Checks.due("that was A", () -> again.state(A), ShardRing.GONE);
        Checks.due("B is not", () -> again.state(B), ShardRing.FLIPPED);
    }

    private static void stepsAscend() {
        ShardRing x = new ShardRing(2, 1);
        int[] keys = {LEAST, -7, -1, 0, 5, GREATEST};
        for (int i = keys.length - 1; i >= 0; i--) {
            x.put(keys[i], i);
        }
        stepThrough(x, keys, x.leave(0));
        stepThrough(x, keys, x.join(0, 16));
        Checks.due("all at node 0", () -> x.size(0), keys.length);
        stepThrough(x, keys, x.leave(0));
        Checks.due("all at node 1", () -> x.size(1), keys.length);
        // The keys of several sources in one row.
        ShardRing many = new ShardRing(7, 1);
        int[] ascending = new int[30];
        for (int i = 0; i < ascending.length; i++) {
            ascending[i] = Rings.manyKey(9 * i);
            many.put(ascending[i], i);
        }
        stepThrough(many, ascending, many.join(7, 16));
    }

    private static void stepThrough(ShardRing x, int[] ascending, int keys) {
        Checks.due("some move", () -> keys > 0, true);
        for (int key : ascending) {
            if (x.state(key) == ShardRing.NEW) {
                x.step();
                Checks.due("the next is " + key, () -> x.state(key), ShardRing.COPIED);
                Rings.steps(x, 2);
            }
        }
        Checks.due("that was all", x::step, ShardRing.OTHER);
    }

    private static void stepEnds() {
        ShardRing x = Rings.allGone();
        Checks.due("keys that are not GONE", () -> x.count(1), 0);
        Checks.due("records", () -> x.written(true), 4);
        Checks.due("step", x::step, ShardRing.OTHER);
        Checks.due("no plan", () -> x.count(1), -1);
        Checks.due("a record", () -> x.written(true), 5);
        Checks.due("a write", () -> x.written(false), 16);
        Checks.due("a key that moved", () -> x.state(A), ShardRing.OTHER);
    }

    private static void stepEndsNoKeys() {
        ShardRing x = Rings.planOfNoKeys();
        Checks.due("step", x::step, ShardRing.OTHER);
        Checks.due("and again", x::step, Checks.STATE);
        ShardRing staying = new ShardRing(2, 1);
        staying.put(D, 1);
        staying.join(2, 1);
        Checks.due("with a key that stays", staying::step, ShardRing.OTHER);
    }

    private static void stepWithoutPlan() {
        Checks.refused("never one", Rings::loaded, ShardRing::step, Checks.STATE);
        Checks.refused("it has ended", () -> Rings.moving(10), ShardRing::step, Checks.STATE);
    }

    private static void stepOfTheNextPlan() {
        ShardRing x = Rings.moving(10);
        x.leave(2);
        Checks.due("all NEW", () -> x.count(1), 3);
        Checks.due("none FLIPPED", () -> x.count(2), 0);
        Checks.due("A copied", x::step, ShardRing.COPIED);
        Checks.due("A's home", () -> x.home(A), 2);
        Checks.due("A flipped", x::step, ShardRing.FLIPPED);
        Checks.due("A's new home", () -> x.home(A), 1);
    }

    private static void homesAndStates() {
        Checks.sentence("Promise 13, Terms: its source, if it is in the plan and NEW or COPIED", PlanBoundaryTests::homeAtSource);
        Checks.sentence("Promise 13, Terms: otherwise its owner by the members", PlanBoundaryTests::homeAtOwner);
        Checks.sentence("Promise 14: OTHER if it is not in the plan", PlanBoundaryTests::stateOther);
        Checks.sentence("Promise 14: else NEW, COPIED, FLIPPED, GONE", PlanBoundaryTests::statesOfAKey);
        Checks.sentence("Promise 14, Terms: the first and the last key of the plan", PlanBoundaryTests::statesAtTheEdges);
    }

    private static void homeAtSource() {
        ShardRing x = Rings.moving(0);
        Checks.due("NEW", () -> x.home(A), 1);
        x.remove(A);
        Checks.due("NEW and not there", () -> x.home(A), 1);
        x.step();
        Checks.due("COPIED", () -> x.home(A), 1);
        Checks.due("the last of the plan", () -> x.home(C), 1);
    }

    private static void homeAtOwner() {
        ShardRing x = Rings.moving(2);
        Checks.due("FLIPPED", () -> x.home(A), 2);
        x.step();
        Checks.due("GONE", () -> x.home(A), 2);
        Checks.due("not in the plan, with the same owner", () -> x.home(D), 1);
        Checks.due("not in the plan, with another owner than before", () -> x.home(Rings.LATE), 2);
        ShardRing y = new ShardRing(3, 1);
        Checks.due("without a plan, behind the last point", () -> y.home(Rings.LAST), 0);
    }

    private static void stateOther() {
        ShardRing x = Rings.loaded();
        Checks.due("no plan", () -> x.state(A), ShardRing.OTHER);
        x.join(2, 1);
        Checks.due("it stays", () -> x.state(D), ShardRing.OTHER);
        Checks.due("it is nowhere", () -> x.state(77), ShardRing.OTHER);
        x.put(Rings.LATE, 1);
        Checks.due("it came later", () -> x.state(Rings.LATE), ShardRing.OTHER);
        Checks.due("a plan of no keys", () -> Rings.planOfNoKeys().state(0), ShardRing.OTHER);
        Rings.finish(x, 3);
        Checks.due("the plan has ended", () -> x.state(A), ShardRing.OTHER);
    }

    private static void statesOfAKey() {
        int[] states = {ShardRing.NEW, ShardRing.COPIED, ShardRing.FLIPPED, ShardRing.GONE, ShardRing.GONE};
        for (int steps = 0; steps < states.length; steps++) {
            ShardRing x = Rings.moving(steps);
            Checks.due("after " + steps + " steps", () -> x.state(A), states[steps]);
            x.remove(A);
            Checks.due("removed after " + steps + " steps", () -> x.state(A), states[steps]);
        }
    }

    private static void statesAtTheEdges() {
        ShardRing x = Rings.allGone();
        for (int key : new int[] {A, B, C}) {
            Checks.due("of " + key, () -> x.state(key), ShardRing.GONE);
            Checks.due("one below " + key, () -> x.state(key - 1), ShardRing.OTHER);
            Checks.due("one above " + key, () -> x.state(key + 1), ShardRing.OTHER);
        }
        Checks.due("the least int", () -> x.state(LEAST), ShardRing.OTHER);
        Checks.due("the greatest int", () -> x.state(GREATEST), ShardRing.OTHER);
    }

    private static void counts() {
        Checks.sentence("Promise 19: how many keys are there", PlanBoundaryTests::countThere);
        Checks.sentence("Promise 19, Terms: a key is there if the store of its home has it", PlanBoundaryTests::countByHomes);
        Checks.sentence("Promise 19: keys of the plan that are not GONE", PlanBoundaryTests::countNotGone);
        Checks.sentence("Promise 19: of these FLIPPED", PlanBoundaryTests::countFlipped);
        Checks.sentence("Promise 19: NONE without a plan", PlanBoundaryTests::countWithoutPlan);
        Checks.sentence("Promise 19: another what", PlanBoundaryTests::countOfAnother);
    }

    private static void countThere() {
        Checks.due("none", () -> new ShardRing(8, 16).count(0), 0);
        Checks.due("the most", () -> Rings.full().count(0), 256);
        ShardRing x = Rings.moving(0);
        for (int steps = 0; steps <= 10; steps++) {
            Checks.due("after " + steps + " steps", () -> x.count(0), 5);
            if (steps < 10) {
                x.step();
            }
        }
    }

    private static void countByHomes() {
        ShardRing copied = Rings.moving(1);
        copied.remove(A);
        Checks.due("a COPIED key was removed", () -> copied.count(0), 4);
        copied.put(A, 1);
        Checks.due("and put", () -> copied.count(0), 5);
        ShardRing flipped = Rings.moving(2);
        flipped.remove(A);
        Checks.due("a FLIPPED key was removed, its source has it", () -> flipped.count(0), 4);
        ShardRing again = Rings.restarted(Rings.moving(1));
        again.remove(A);
        Checks.due("a NEW key was removed, its target has it", () -> again.count(0), 4);
    }

    private static void countNotGone() {
        int[] left = {3, 3, 3, 2, 2, 2, 1, 1, 1, 0};
        for (int steps = 0; steps < left.length; steps++) {
            ShardRing x = Rings.moving(steps);
            Checks.due("after " + steps + " steps", () -> x.count(1), left[steps]);
        }
        ShardRing removed = Rings.moving(0);
        removed.remove(A);
        Checks.due("a removed key counts", () -> removed.count(1), 3);
        Checks.due("of no keys", () -> Rings.planOfNoKeys().count(1), 0);
    }

    private static void countFlipped() {
        int[] flipped = {0, 0, 1, 0, 0, 1, 0, 0, 1, 0};
        for (int steps = 0; steps < flipped.length; steps++) {
            ShardRing x = Rings.moving(steps);
            Checks.due("after " + steps + " steps", () -> x.count(2), flipped[steps]);
        }
        ShardRing again = Rings.restarted(Rings.allGone());
        Checks.due("all, when none is GONE any more", () -> again.count(2), 3);
        Checks.due("of no keys", () -> Rings.planOfNoKeys().count(2), 0);
    }

    private static void countWithoutPlan() {
        ShardRing x = Rings.loaded();
        Checks.due("never one, count(1)", () -> x.count(1), -1);
        Checks.due("never one, count(2)", () -> x.count(2), -1);
        ShardRing ended = Rings.moving(10);
        Checks.due("it has ended, count(1)", () -> ended.count(1), -1);
        Checks.due("it has ended, count(2)", () -> ended.count(2), -1);
    }

    private static void countOfAnother() {
        for (int what : new int[] {LEAST, -1, 3, GREATEST}) {
            Checks.refused("count(" + what + ")", () -> Rings.moving(2), x -> x.count(what), Checks.ARGUMENT);
        }
    }
}
