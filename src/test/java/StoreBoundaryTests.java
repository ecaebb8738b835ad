import java.util.List;

/** The sentences on put, remove, get and on what the stores have (promises 2, 3, 4, 15, 16, 17). */
public final class StoreBoundaryTests {
    private static final int A = Rings.A, B = Rings.B, C = Rings.C, D = Rings.D, E = Rings.E;
    private static final int LEAST = Integer.MIN_VALUE, GREATEST = Integer.MAX_VALUE;

    private StoreBoundaryTests() {
    }

    public static void main(String[] args) {
        all();
        Checks.end();
    }

    static void all() {
        puts();
        putLimit();
        removes();
        gets();
        stores();
    }

    private static void puts() {
        Checks.sentence("Promise 2: 1 if it was not there, 0 if it was", StoreBoundaryTests::putAnswers);
        Checks.sentence("Promise 2, Terms: not there, though another store than the home's has it",
            StoreBoundaryTests::putBesideALeftover);
        Checks.sentence("Promise 2, Terms: keys and values are ints", StoreBoundaryTests::putAnyInts);
        Checks.sentence("Promise 2, Terms: the home's store", StoreBoundaryTests::putAtHome);
        Checks.sentence("Promise 2, Terms: and, if the key is COPIED, the target's store", StoreBoundaryTests::putCopied);
        Checks.sentence("Promise 2, Terms: only if it is COPIED", StoreBoundaryTests::putNotCopied);
        Checks.sentence("Promise 2, Terms: a put of the same value is a write", StoreBoundaryTests::putSameValue);
    }

    private static void putAnswers() {
        ShardRing x = new ShardRing(2, 1);
        Checks.due("the first key", () -> x.put(A, 1), 1);
        Checks.due("again", () -> x.put(A, 2), 0);
        Checks.due("with the same value", () -> x.put(A, 2), 0);
        Checks.due("another key", () -> x.put(B, 2), 1);
        x.remove(A);
        Checks.due("after it was removed", () -> x.put(A, 2), 1);
        Checks.due("the last value", () -> x.get(A), 2);
    }

    private static void putBesideALeftover() {
        ShardRing flipped = Rings.moving(2);
        flipped.remove(A);
        Checks.due("the source has it still", () -> flipped.holds(1, A), true);
        Checks.due("FLIPPED and removed", () -> flipped.put(A, 9), 1);
        Checks.due("it is there then", () -> flipped.get(A), 9);
        ShardRing copied = Rings.restarted(Rings.moving(1));
        copied.remove(A);
        Checks.due("the target has it still", () -> copied.holds(2, A), true);
        Checks.due("NEW again and removed", () -> copied.put(A, 9), 1);
    }

    private static void putAnyInts() {
        putEdges(new ShardRing(8, 16));
        // All in one store, where they stand in order.
        putEdges(new ShardRing(1, 1));
    }

    private static void putEdges(ShardRing x) {
        int[] numbers = {LEAST, LEAST + 1, -9, -1, 0, 1, GREATEST - 1, GREATEST};
        for (int i = 0; i < numbers.length; i++) {
            int key = numbers[i];
            int value = numbers[numbers.length - 1 - i];
            Checks.due("put(" + key + ")", () -> x.put(key, value), 1);
        }
        for (int i = 0; i < numbers.length; i++) {
            int key = numbers[i];
            Checks.due("get(" + key + ")", () -> x.get(key), numbers[numbers.length - 1 - i]);
        }
        Checks.due("count(0)", () -> x.count(0), numbers.length);
    }

    private static void putAtHome() {
        ShardRing x = new ShardRing(3, 1);
        x.put(Rings.H, 1);
        Checks.due("behind the last point, the first one's store", () -> Rings.holders(x, Rings.H), only(0));
        x.put(Rings.G, 1);
        Checks.due("at node 1's point", () -> Rings.holders(x, Rings.G), only(1));
        x.put(D, 1);
        Checks.due("one above node 2's point", () -> Rings.holders(x, D), only(1));
        x.put(B, 1);
        Checks.due("at node 2's point", () -> Rings.holders(x, B), only(2));
        ShardRing late = Rings.moving(0);
        late.put(Rings.LATE, 1);
        Checks.due("outside the plan, its new owner", () -> Rings.holders(late, Rings.LATE), only(2));
    }

    private static List<Boolean> only(int node) {
        Boolean[] held = new Boolean[8];
        for (int n = 0; n < 8; n++) {
            held[n] = n == node;
        }
        return List.of(held);
    }

    private static void putCopied() {
        ShardRing x = Rings.moving(1);
        x.remove(A);
        Checks.due("a COPIED key that was removed", () -> x.put(A, 9), 1);
        Checks.due("the source", () -> x.holds(1, A), true);
        Checks.due("the target", () -> x.holds(2, A), true);
        x.put(A, 10);
        x.step();
        Checks.due("the target has the last value", () -> x.get(A), 10);
    }

    private static void putNotCopied() {
        ShardRing fresh = Rings.moving(0);
        int before = fresh.written(false);
        fresh.put(A, 9);
        Checks.due("NEW, the target has it not", () -> fresh.holds(2, A), false);
        Checks.due("NEW, writes", () -> fresh.written(false), before + 1);
        ShardRing flipped = Rings.moving(2);
        flipped.put(A, 9);
        Checks.due("FLIPPED, writes", () -> flipped.written(false), before + 3);
        Checks.due("FLIPPED, the target's value", () -> flipped.get(A), 9);
        ShardRing gone = Rings.moving(3);
        gone.put(A, 9);
        Checks.due("GONE, writes", () -> gone.written(false), before + 4);
        Checks.due("GONE, the source has it not", () -> gone.holds(1, A), false);
        ShardRing other = Rings.moving(1);
        other.put(B, 9);
        Checks.due("another key is COPIED, writes", () -> other.written(false), before + 2);
        Checks.due("another key is COPIED, the target has it not", () -> other.holds(2, B), false);
    }

    private static void putSameValue() {
        ShardRing x = Rings.loaded();
        x.put(A, 1);
        Checks.due("writes", () -> x.written(false), 6);
        x.fail(0);
        Checks.due("the power fails before it", () -> x.put(A, 1), -9);
    }

    private static void putLimit() {
        Checks.sentence("Promise 2: 256 other keys are there", StoreBoundaryTests::putTheLastThatFits);
        Checks.sentence("Promise 2: 256 OTHER keys", StoreBoundaryTests::putOneOfAll);
        Checks.sentence("Promise 2: 256 other keys, also outside a plan that moves them", StoreBoundaryTests::limitWhileMoving);
        Checks.sentence("Promise 2, Terms: a key in two stores is one key that is there", StoreBoundaryTests::limitCountsOnce);
        Checks.sentence("Promise 2, Terms: a leftover in a store is no key that is there", StoreBoundaryTests::leftoverLeavesRoom);
        Checks.sentence("Promise 2: refused for 256 other keys before the power fails", StoreBoundaryTests::limitBeforeFailing);
        Checks.sentence("What it is: an object is used for at most 512 calls (promise 2 to the last)",
            StoreBoundaryTests::lastOfAllCalls);
    }

    private static void putTheLastThatFits() {
        for (int nodes : new int[] {1, 8}) {
            ShardRing x = new ShardRing(nodes, 16);
            for (int i = 0; i < 255; i++) {
                x.put(Rings.manyKey(i), i);
            }
            Checks.due("the 256th key", () -> x.put(LEAST, 1), 1);
            Checks.due("the 257th key", () -> x.put(GREATEST, 1), Checks.STATE);
            Checks.due("keys", () -> x.count(0), 256);
            x.remove(Rings.manyKey(7));
            Checks.due("when one is removed", () -> x.put(GREATEST, 1), 1);
            Checks.due("and one more", () -> x.put(Rings.manyKey(7), 1), Checks.STATE);
        }
    }

    private static void putOneOfAll() {
        ShardRing x = Rings.full();
        Checks.due("the first", () -> x.put(Rings.manyKey(0), -5), 0);
        Checks.due("the last", () -> x.put(Rings.manyKey(255), -6), 0);
        Checks.due("the first's value", () -> x.get(Rings.manyKey(0)), -5);
        Checks.due("the last's value", () -> x.get(Rings.manyKey(255)), -6);
    }

    private static void limitWhileMoving() {
        ShardRing x = Rings.full();
        int keys = x.join(2, 16);
        Checks.due("some move", () -> keys > 0, true);
        int moves = firstMoving(x);
        Checks.due("another key, a plan", () -> x.put(LEAST, 1), Checks.STATE);
        Checks.due("a NEW key", () -> x.put(moves, 1), 0);
        x.step();
        Checks.due("a COPIED key", () -> x.put(moves, 1), 0);
        Rings.steps(x, 2);
        Checks.due("a GONE key", () -> x.put(moves, 1), 0);
        Checks.due("another key, one GONE", () -> x.put(LEAST, 1), Checks.STATE);
        x.remove(moves);
        Checks.due("another key in its stead", () -> x.put(LEAST, 1), 1);
    }

    private static int firstMoving(ShardRing x) {
        int i = 0;
        while (i < 255 && x.state(Rings.manyKey(i)) != ShardRing.NEW) {
            i++;
        }
        return Rings.manyKey(i);
    }

    private static void limitCountsOnce() {
        ShardRing x = Rings.full();
        x.remove(Rings.manyKey(255));
        x.join(2, 16);
        x.step();
        Checks.due("copied", () -> x.size(0) + x.size(1) + x.size(2), 256);
        Checks.due("there", () -> x.count(0), 255);
        Checks.due("room for one", () -> x.put(LEAST, 1), 1);
        Checks.due("and no other", () -> x.put(GREATEST, 1), Checks.STATE);
    }

    private static void leftoverLeavesRoom() {
        ShardRing x = Rings.full();
        x.join(2, 16);
        int moves = firstMoving(x);
        Rings.steps(x, 2);
        x.remove(moves);
        Checks.due("the FLIPPED key's source has it still", () -> x.holds(0, moves) || x.holds(1, moves), true);
        Checks.due("there", () -> x.count(0), 255);
        Checks.due("room for one", () -> x.put(LEAST, 1), 1);
        Checks.due("not for that key", () -> x.put(moves, 1), Checks.STATE);
    }

    private static void limitBeforeFailing() {
        ShardRing x = Rings.told(Rings.full(), 0);
        Checks.due("another key", () -> x.put(LEAST, 1), Checks.STATE);
        Checks.due("off", x::off, false);
        Checks.due("one of them", () -> x.put(Rings.manyKey(0), 1), -9);
        Checks.due("off then", x::off, true);
    }

    private static void lastOfAllCalls() {
        ShardRing x = Rings.full();
        for (int i = 0; i < 254; i++) {
            x.put(Rings.manyKey(i), -i);
        }
        Checks.due("the 511th call", () -> x.get(Rings.manyKey(253)), -253);
        Checks.due("the 512th call", () -> x.written(false), 510);
    }

    private static void removes() {
        Checks.sentence("Promise 3: 1 if it was there, 0 if not", StoreBoundaryTests::removeAnswers);
        Checks.sentence("Promise 3: nothing is written then", StoreBoundaryTests::removeNothing);
        Checks.sentence("Promise 3: nothing is written then, also of a COPIED key", StoreBoundaryTests::removeNothingCopied);
        Checks.sentence("Promise 3, Terms: not there, though another store than the home's has it",
            StoreBoundaryTests::removeBesideALeftover);
        Checks.sentence("Promise 3, Terms: if the key is COPIED, off the target's store too", StoreBoundaryTests::removeCopied);
        Checks.sentence("Promise 3, Terms: only if it is COPIED", StoreBoundaryTests::removeNotCopied);
        Checks.sentence("Promise 3: the last key of a store", StoreBoundaryTests::removeTheLast);
        Checks.sentence("Promise 3: a key goes, and no other", StoreBoundaryTests::removeKeepsTheOthers);
    }

    private static void removeAnswers() {
        ShardRing x = new ShardRing(2, 1);
        Checks.due("of an empty ring", () -> x.remove(A), 0);
        x.put(A, 1);
        Checks.due("another key", () -> x.remove(B), 0);
        Checks.due("the key", () -> x.remove(A), 1);
        Checks.due("again", () -> x.remove(A), 0);
        Checks.due("keys", () -> x.count(0), 0);
    }

    private static void removeNothing() {
        ShardRing x = Rings.told(Rings.loaded(), 0);
        Checks.due("a key that is not there", () -> x.remove(77), 0);
        Checks.due("off", x::off, false);
        Checks.due("writes", () -> x.written(false), 5);
        Checks.due("the told failing is still to come", () -> x.remove(A), -9);
    }

    private static void removeNothingCopied() {
        ShardRing x = Rings.moving(1);
        x.remove(A);
        int before = x.written(false);
        x.fail(0);
        Checks.due("again", () -> x.remove(A), 0);
        Checks.due("off", x::off, false);
        Checks.due("writes", () -> x.written(false), before);
    }

    private static void removeBesideALeftover() {
        ShardRing flipped = Rings.moving(2);
        flipped.remove(A);
        int before = flipped.written(false);
        Checks.due("FLIPPED, at the source only", () -> flipped.remove(A), 0);
        Checks.due("the source has it still", () -> flipped.holds(1, A), true);
        Checks.due("FLIPPED, writes", () -> flipped.written(false), before);
        ShardRing copied = Rings.restarted(Rings.moving(1));
        copied.remove(A);
        Checks.due("NEW again, at the target only", () -> copied.remove(A), 0);
        Checks.due("the target has it still", () -> copied.holds(2, A), true);
    }

    private static void removeCopied() {
        ShardRing x = Rings.moving(1);
        Checks.due("a COPIED key", () -> x.remove(A), 1);
        Checks.due("the source", () -> x.holds(1, A), false);
        Checks.due("the target", () -> x.holds(2, A), false);
        Checks.due("two writes", () -> x.written(false), 9);
    }

    private static void removeNotCopied() {
        ShardRing fresh = Rings.restarted(Rings.moving(1));
        Checks.due("a NEW key", () -> fresh.remove(A), 1);
        Checks.due("NEW, off the source", () -> fresh.holds(1, A), false);
        Checks.due("NEW, not off the target", () -> fresh.holds(2, A), true);
        Checks.due("NEW, one write", () -> fresh.written(false), 8);
        ShardRing flipped = Rings.moving(2);
        Checks.due("a FLIPPED key", () -> flipped.remove(A), 1);
        Checks.due("FLIPPED, not off the source", () -> flipped.holds(1, A), true);
        Checks.due("FLIPPED, off the target", () -> flipped.holds(2, A), false);
        Checks.due("FLIPPED, one write", () -> flipped.written(false), 9);
        ShardRing gone = Rings.moving(3);
        Checks.due("a GONE key", () -> gone.remove(A), 1);
        Checks.due("GONE, one write", () -> gone.written(false), 10);
    }

    private static void removeTheLast() {
        ShardRing x = Rings.loaded();
        Checks.due("the only key of node 0", () -> x.remove(E), 1);
        Checks.due("its store", () -> x.size(0), 0);
        Checks.due("a key in it", () -> x.key(0, 0), Checks.BOUNDS);
        for (int key : new int[] {C, A, D, B}) {
            Checks.due("a key of node 1", () -> x.remove(key), 1);
        }
        Checks.due("the store of node 1", () -> x.size(1), 0);
        Checks.due("all keys", () -> x.count(0), 0);
    }

    /** Removed from the front, the middle and the end of one store. */
    private static void removeKeepsTheOthers() {
        for (int gone : new int[] {LEAST, -1, GREATEST}) {
            ShardRing x = new ShardRing(1, 1);
            int[] keys = {LEAST, LEAST + 1, -1, 7, GREATEST};
            for (int i = 0; i < keys.length; i++) {
                x.put(keys[i], 10 * i);
            }
            x.remove(gone);
            for (int i = 0; i < keys.length; i++) {
                int key = keys[i];
                Object due = key == gone ? (Object) Checks.MISSING : (Object) (10 * i);
                Checks.due("without " + gone + ", get(" + key + ")", () -> x.get(key), due);
            }
        }
    }

    private static void gets() {
        Checks.sentence("Promise 4: the value of a key, as its home has it", StoreBoundaryTests::getFromHome);
        Checks.sentence("Promise 4: a value that is one of the constants", StoreBoundaryTests::getConstants);
        Checks.sentence("Promise 4: NoSuchElementException", StoreBoundaryTests::getMissing);
        Checks.sentence("Promise 4, Terms: not there, though another store than the home's has it",
            StoreBoundaryTests::getBesideALeftover);
    }

    private static void getFromHome() {
        ShardRing fresh = Rings.restarted(Rings.moving(1));
        fresh.put(A, 9);
        Checks.due("NEW: the source's, not the old one at the target", () -> fresh.get(A), 9);
        ShardRing flipped = Rings.moving(2);
        flipped.put(A, 9);
        Checks.due("FLIPPED: the target's, not the old one at the source", () -> flipped.get(A), 9);
        ShardRing gone = Rings.moving(3);
        Checks.due("GONE", () -> gone.get(A), 1);
    }

    private static void getConstants() {
        ShardRing x = new ShardRing(1, 1);
        for (int value : new int[] {ShardRing.FAILED, ShardRing.NONE, 0, LEAST, GREATEST}) {
            x.put(A, value);
            Checks.due("the value " + value, () -> x.get(A), value);
        }
    }

    private static void getMissing() {
        Checks.refused("of an empty ring", () -> new ShardRing(1, 1), x -> x.get(0), Checks.MISSING);
        Checks.refused("a key that never was", Rings::loaded, x -> x.get(77), Checks.MISSING);
        ShardRing removed = Rings.loaded();
        removed.remove(A);
        Checks.due("a removed key", () -> removed.get(A), Checks.MISSING);
        Checks.refused("with a plan", () -> Rings.moving(0), x -> x.get(77), Checks.MISSING);
    }

    private static void getBesideALeftover() {
        ShardRing flipped = Rings.moving(2);
        flipped.remove(A);
        Checks.due("FLIPPED, at the source only", () -> flipped.get(A), Checks.MISSING);
        ShardRing copied = Rings.restarted(Rings.moving(1));
        copied.remove(A);
        Checks.due("NEW again, at the target only", () -> copied.get(A), Checks.MISSING);
    }

    private static void stores() {
        Checks.sentence("Promise 15: whether a node's store has a key", StoreBoundaryTests::holdsKeys);
        Checks.sentence("Promise 15: also without power", StoreBoundaryTests::holdsWithoutPower);
        Checks.sentence("Promise 16: how many keys a node's store has", StoreBoundaryTests::sizes);
        Checks.sentence("Promise 16: also without power", StoreBoundaryTests::sizeWithoutPower);
        Checks.sentence("Promise 17: in ascending order", StoreBoundaryTests::keysAscending);
        Checks.sentence("Promise 17: it has not so many", StoreBoundaryTests::notSoManyKeys);
        Checks.sentence("Promise 17: without power, for that is not named", StoreBoundaryTests::keyWithoutPower);
    }

    private static void holdsKeys() {
        ShardRing x = new ShardRing(1, 1);
        x.put(LEAST, 0);
        x.put(GREATEST, 0);
        Checks.due("the least key", () -> x.holds(0, LEAST), true);
        Checks.due("the one above it", () -> x.holds(0, LEAST + 1), false);
        Checks.due("the greatest key", () -> x.holds(0, GREATEST), true);
        Checks.due("the one below it", () -> x.holds(0, GREATEST - 1), false);
        Checks.due("another node", () -> x.holds(7, LEAST), false);
        ShardRing y = Rings.moving(2);
        Checks.due("a FLIPPED key, its source", () -> y.holds(1, A), true);
        Checks.due("a FLIPPED key, its target", () -> y.holds(2, A), true);
    }

    private static void holdsWithoutPower() {
        ShardRing x = Rings.cut(Rings.moving(1));
        Checks.due("the source of a COPIED key", () -> x.holds(1, A), true);
        Checks.due("its target", () -> x.holds(2, A), true);
        Checks.due("the target of a NEW key", () -> x.holds(2, B), false);
    }

    private static void sizes() {
        ShardRing x = Rings.full();
        Checks.due("all", () -> x.size(0) + x.size(1), 256);
        Checks.due("no member", () -> x.size(7), 0);
        ShardRing one = new ShardRing(1, 1);
        for (int i = 0; i < 256; i++) {
            one.put(Rings.manyKey(255 - i), i);
        }
        Checks.due("all in one store", () -> one.size(0), 256);
        ShardRing y = Rings.moving(1);
        Checks.due("the source of a COPIED key", () -> y.size(1), 4);
        Checks.due("its target", () -> y.size(2), 1);
        y.remove(B);
        Checks.due("the source of a removed key", () -> y.size(1), 3);
        ShardRing left = new ShardRing(2, 1);
        left.put(E, 1);
        left.leave(0);
        Checks.due("the node that leaves", () -> left.size(0), 1);
        Rings.finish(left, 1);
        Checks.due("the node that has left", () -> left.size(0), 0);
    }

    private static void sizeWithoutPower() {
        ShardRing x = Rings.cut(Rings.moving(3));
        Checks.due("the source of a GONE key", () -> x.size(1), 3);
        Checks.due("its target", () -> x.size(2), 1);
    }

    private static void keysAscending() {
        ShardRing x = new ShardRing(1, 1);
        int[] ascending = {LEAST, LEAST + 1, -1, 0, 1, GREATEST - 1, GREATEST};
        for (int i : new int[] {3, 6, 0, 5, 1, 4, 2}) {
            x.put(ascending[i], i);
        }
        for (int i = 0; i < ascending.length; i++) {
            int at = i;
            Checks.due("key " + i, () -> x.key(0, at), ascending[at]);
        }
        ShardRing many = new ShardRing(1, 1);
        for (int i = 0; i < 256; i++) {
            many.put(Rings.manyKey(i * 77 % 256), i);
        }
        for (int i = 0; i < 256; i += 5) {
            int at = i;
            Checks.due("key " + i + " of 256", () -> many.key(0, at), Rings.manyKey(at));
        }
    }

    private static void notSoManyKeys() {
        Checks.refused("the first of an empty store", Rings::loaded, x -> x.key(7, 0), Checks.BOUNDS);
        Checks.refused("behind the last", Rings::loaded, x -> x.key(1, 4), Checks.BOUNDS);
        Checks.refused("before the first", Rings::loaded, x -> x.key(1, -1), Checks.BOUNDS);
        Checks.refused("the greatest int", Rings::loaded, x -> x.key(1, GREATEST), Checks.BOUNDS);
        Checks.refused("the least int", Rings::loaded, x -> x.key(1, LEAST), Checks.BOUNDS);
        ShardRing x = Rings.loaded();
        Checks.due("the last", () -> x.key(1, 3), C);
        x.remove(A);
        Checks.due("the last that was", () -> x.key(1, 3), Checks.BOUNDS);
        // As many as the rows had room for at first, and one behind.
        ShardRing full = new ShardRing(1, 1);
        for (int i = 0; i < 32; i++) {
            full.put(i, i);
        }
        Checks.due("the last of 32", () -> full.key(0, 31), 31);
        Checks.due("behind the last of 32", () -> full.key(0, 32), Checks.BOUNDS);
    }

    private static void keyWithoutPower() {
        ShardRing x = Rings.cut(Rings.moving(1));
        Checks.due("the copy", () -> x.key(2, 0), A);
        Checks.due("behind it", () -> x.key(2, 1), Checks.BOUNDS);
    }
}
