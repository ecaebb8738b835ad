import java.math.BigInteger;
import java.util.HashSet;
import java.util.Set;

/** The sentences on a new object, places, owners, points and shares (promises 1, 11, 12, 18, 21). */
public final class RingBoundaryTests {
    private static final long ALL_PLACES = 2147483648L;

    private RingBoundaryTests() {
    }

    public static void main(String[] args) {
        all();
        Checks.end();
    }

    static void all() {
        newObjects();
        places();
        owners();
        pointsOfNodes();
        shares();
    }

    private static void newObjects() {
        Checks.sentence("Promise 1: so many nodes, the nearest of 1 .. 8", RingBoundaryTests::nearestNodes);
        Checks.sentence("Promise 1: nodes 0 and following", RingBoundaryTests::firstNodes);
        Checks.sentence("Promise 1: so many points each, the nearest of 1 .. 16", RingBoundaryTests::nearestPoints);
        Checks.sentence("Promise 1: no key", RingBoundaryTests::noKey);
        Checks.sentence("Promise 1: no plan", RingBoundaryTests::noPlan);
        Checks.sentence("Promise 1: an empty log", RingBoundaryTests::emptyLog);
        Checks.sentence("Promise 1: the power is on", RingBoundaryTests::powerOn);
    }

    private static void nearestNodes() {
        int[][] cases = {
            {Integer.MIN_VALUE, 1}, {-1, 1}, {0, 1}, {1, 1}, {2, 2}, {7, 7}, {8, 8}, {9, 8}, {Integer.MAX_VALUE, 8}
        };
        for (int[] each : cases) {
            Checks.due(each[0] + " nodes, members", () -> members(new ShardRing(each[0], 1)), each[1]);
        }
    }

    private static int members(ShardRing x) {
        int members = 0;
        for (int node = 0; node < 8; node++) {
            members += x.points(node) > 0 ? 1 : 0;
        }
        return members;
    }

    private static void firstNodes() {
        for (int nodes = 1; nodes <= 8; nodes++) {
            ShardRing x = new ShardRing(nodes, 2);
            for (int node = 0; node < 8; node++) {
                int n = node;
                Checks.due(nodes + " nodes, points(" + n + ")", () -> x.points(n), n < nodes ? 2 : 0);
            }
        }
    }

    private static void nearestPoints() {
        int[][] cases = {
            {Integer.MIN_VALUE, 1}, {-1, 1}, {0, 1}, {1, 1}, {2, 2}, {15, 15}, {16, 16}, {17, 16}, {Integer.MAX_VALUE, 16}
        };
        for (int[] each : cases) {
            ShardRing x = new ShardRing(8, each[0]);
            Checks.due(each[0] + " points, node 0", () -> x.points(0), each[1]);
            Checks.due(each[0] + " points, node 7", () -> x.points(7), each[1]);
        }
    }

    private static void noKey() {
        ShardRing x = new ShardRing(8, 16);
        Checks.due("count(0)", () -> x.count(0), 0);
        for (int node = 0; node < 8; node++) {
            int n = node;
            Checks.due("size(" + n + ")", () -> x.size(n), 0);
            Checks.due("key(" + n + ", 0)", () -> x.key(n, 0), Checks.BOUNDS);
            Checks.due("holds(" + n + ", 0)", () -> x.holds(n, 0), false);
        }
        Checks.due("get(0)", () -> x.get(0), Checks.MISSING);
    }

    private static void noPlan() {
        ShardRing x = new ShardRing(8, 16);
        Checks.due("count(1)", () -> x.count(1), -1);
        Checks.due("count(2)", () -> x.count(2), -1);
        Checks.due("step", x::step, Checks.STATE);
        Checks.due("state(0)", () -> x.state(0), 0);
    }

    private static void emptyLog() {
        ShardRing x = new ShardRing(8, 16);
        Checks.due("records", () -> x.written(true), 0);
        Checks.due("writes", () -> x.written(false), 0);
    }

    private static void powerOn() {
        ShardRing x = new ShardRing(8, 16);
        Checks.due("off", x::off, false);
        Checks.due("recover", x::recover, Checks.STATE);
        Checks.due("a write, for nothing is told to fail", () -> x.put(0, 0), 1);
    }

    private static void places() {
        Checks.sentence("Promise 11, Terms: places are 0 .. 2147483647", RingBoundaryTests::leastAndGreatestPlace);
        Checks.sentence("Promise 11, Terms: x shifted down by 29 without sign", RingBoundaryTests::xWithoutSign);
        Checks.sentence("Promise 11, Terms: y shifted down by 33 without sign", RingBoundaryTests::yWithoutSign);
        Checks.sentence("Promise 11, Terms: of any long, by the formula", RingBoundaryTests::manyPlaces);
        Checks.sentence("Promise 11: also without power", RingBoundaryTests::placeWithoutPower);
    }

    private static void leastAndGreatestPlace() {
        ShardRing x = new ShardRing(1, 1);
        Checks.due("place(0)", () -> x.place(0), 0);
        Checks.due("place(1134903168)", () -> x.place(1134903168), 0);
        Checks.due("place(-974963834)", () -> x.place(-974963834), 1);
        Checks.due("place(701408732)", () -> x.place(701408732), 2147483646);
        Checks.due("place(1836311900)", () -> x.place(1836311900), 2147483647);
        Checks.due("place(-541469395)", () -> x.place(-541469395), 2147483647);
    }

    private static void xWithoutSign() {
        ShardRing x = new ShardRing(1, 1);
        Checks.due("place(-1)", () -> x.place(-1), 47583148);
        Checks.due("place of the least long", () -> x.place(Long.MIN_VALUE), 1049950250);
        Checks.due("place of the greatest long", () -> x.place(Long.MAX_VALUE), 1097533398);
    }

    private static void yWithoutSign() {
        ShardRing x = new ShardRing(1, 1);
        // Here y is negative: 1 * -7046029254386353131.
        Checks.due("place(1)", () -> x.place(1), 1327217884);
        // And here it is not.
        Checks.due("place(2)", () -> x.place(2), formula(2));
    }

    private static void manyPlaces() {
        ShardRing x = new ShardRing(1, 1);
        for (int bit = 0; bit < 64; bit++) {
            for (int beside = -1; beside <= 1; beside++) {
                long number = (1L << bit) + beside;
                Checks.due("place(" + number + ")", () -> x.place(number), formula(number));
            }
        }
    }

    /** The document's formula with numbers that have no sign and never wrap. */
    private static int formula(long number) {
        BigInteger range = BigInteger.ONE.shiftLeft(64);
        BigInteger x = BigInteger.valueOf(number).mod(range);
        BigInteger factor = new BigInteger("-7046029254386353131");
        return x.xor(x.shiftRight(29)).multiply(factor).mod(range).shiftRight(33).intValueExact();
    }

    private static void placeWithoutPower() {
        ShardRing x = Rings.cut(new ShardRing(1, 1));
        Checks.due("place(1)", () -> x.place(1), 1327217884);
    }

    private static void owners() {
        Checks.sentence("Promise 12, Terms: the place of an int is that of the long", RingBoundaryTests::negativeKeys);
        Checks.sentence("Promise 12, Terms: the place of point v of node n", RingBoundaryTests::placesOfPoints);
        Checks.sentence("Promise 12, Terms: the least point not below the key's place", RingBoundaryTests::pointNotBelow);
        Checks.sentence("Promise 12, Terms: if there is none, of the least point of all", RingBoundaryTests::wrapAround);
        Checks.sentence("Promise 12, Terms: of several at the same place (there are none)", RingBoundaryTests::noTwoAtAPlace);
        Checks.sentence("Promise 12: by the members, with a plan the new ones", RingBoundaryTests::ownerByNewMembers);
        Checks.sentence("Promise 12: of a key that is nowhere", RingBoundaryTests::ownerOfAnyKey);
    }

    private static void negativeKeys() {
        ShardRing x = new ShardRing(3, 1);
        // Without their sign these ints have other owners.
        Checks.due("owner of place 1525290038", () -> x.owner(Rings.A), 2);
        Checks.due("owner of place 52752509", () -> x.owner(Rings.F), 0);
        Checks.due("owner of place 1862763098", () -> x.owner(Rings.G), 1);
        Checks.due("owner(-1), place 47583148", () -> x.owner(-1), 0);
        Checks.due("owner of the least int", () -> x.owner(Integer.MIN_VALUE),
            ownerOfPlace(x.place((long) Integer.MIN_VALUE)));
    }

    private static int ownerOfPlace(int place) {
        return place <= 52752509 ? 0 : place <= 1525290039 ? 2 : place <= 1862763098 ? 1 : 0;
    }

    /** The first and the last point of each node: a key at the point, one behind it, and the owner of that. */
    private static void placesOfPoints() {
        int[][] points = {
            {0, 863461546, 1998364718, 3}, {0, -1404930960, 863461563, 7}, {1, -1405930948, 864461551, 4},
            {1, 1565870296, 864461564, 4}, {2, 1566870284, 865461552, 5}, {2, 865461569, 2000364737, 5},
            {3, -1407930950, 866461557, 6}, {3, -1407930965, 866461570, 6}, {4, -1408926857, 867457462, 7},
            {4, -1408926876, 867457479, 0}, {5, 1569866197, 868457467, 4}, {5, 868457480, 2003360648, 1},
            {6, 869457468, 2004360636, 5}, {6, -1410926878, 869457485, 2}, {7, -1411926866, 870457473, 6},
            {7, 1571866222, 870457486, 0}
        };
        ShardRing x = new ShardRing(8, 16);
        for (int i = 0; i < points.length; i++) {
            int[] point = points[i];
            long number = 1000003L * point[0] + (i % 2 == 0 ? 0 : 15) + (1L << 40);
            Checks.due("the key's place", () -> x.place(point[1]), x.place(number));
            Checks.due("owner at the point of " + number, () -> x.owner(point[1]), point[0]);
            Checks.due("owner behind the point of " + number, () -> x.owner(point[2]), point[3]);
        }
    }

    private static void pointNotBelow() {
        ShardRing x = new ShardRing(3, 1);
        Checks.due("owner one below node 0's point", () -> x.owner(1564870282), 0);
        Checks.due("owner at node 0's point", () -> x.owner(Rings.F), 0);
        Checks.due("owner one above node 0's point", () -> x.owner(Rings.C), 2);
        Checks.due("owner one below node 2's point", () -> x.owner(Rings.A), 2);
        Checks.due("owner at node 2's point", () -> x.owner(Rings.B), 2);
        Checks.due("owner one above node 2's point", () -> x.owner(Rings.D), 1);
        Checks.due("owner one below node 1's point", () -> x.owner(1565870281), 1);
        Checks.due("owner at node 1's point", () -> x.owner(Rings.G), 1);
    }

    private static void wrapAround() {
        ShardRing x = new ShardRing(3, 1);
        Checks.due("owner one above the last point", () -> x.owner(Rings.H), 0);
        Checks.due("owner of the greatest place", () -> x.owner(Rings.LAST), 0);
        x.leave(0);
        Checks.due("owner of the greatest place without node 0", () -> x.owner(Rings.LAST), 2);
        Checks.due("owner of the least place without node 0", () -> x.owner(0), 2);
        ShardRing one = new ShardRing(1, 1);
        Checks.due("owner behind the only point", () -> one.owner(Rings.C), 0);
        Checks.due("owner of the greatest place with one point", () -> one.owner(Rings.LAST), 0);
        ShardRing full = new ShardRing(8, 16);
        Checks.due("owner at the last of all points", () -> full.owner(865461569), 2);
        Checks.due("owner one above the last of all points", () -> full.owner(2000364737), 5);
        Checks.due("owner of the greatest place with all points", () -> full.owner(Rings.LAST), 5);
        Checks.due("owner of the least place with all points", () -> full.owner(0), 5);
    }

    /** So no call can reach the rule for several points at the same place. */
    private static void noTwoAtAPlace() {
        ShardRing x = new ShardRing(8, 16);
        Set<Integer> places = new HashSet<>();
        for (int node = 0; node < 8; node++) {
            for (int v = 0; v < 16; v++) {
                places.add(x.place(1000003L * node + v + (1L << 40)));
            }
        }
        Checks.due("places of all points", places::size, 128);
    }

    private static void ownerByNewMembers() {
        ShardRing x = Rings.loaded();
        Checks.due("before", () -> x.owner(Rings.B), 1);
        x.join(2, 1);
        Checks.due("with a plan, NEW", () -> x.owner(Rings.B), 2);
        Rings.finish(x, 3);
        Checks.due("behind the plan", () -> x.owner(Rings.B), 2);
        x.leave(2);
        Checks.due("with the plan of leaving", () -> x.owner(Rings.B), 1);
    }

    private static void ownerOfAnyKey() {
        ShardRing x = new ShardRing(3, 1);
        Checks.due("owner(0)", () -> x.owner(Rings.E), 0);
        Checks.due("nothing is there", () -> x.count(0), 0);
        ShardRing moving = Rings.moving(0);
        Checks.due("a key outside the plan", () -> moving.owner(Rings.LATE), 2);
    }

    private static void pointsOfNodes() {
        Checks.sentence("Promise 18: how many points a node has", RingBoundaryTests::pointsOfMembers);
        Checks.sentence("Promise 18: 0 if it is no member", RingBoundaryTests::pointsOfNoMember);
        Checks.sentence("Promise 18, Terms: nodes are 0 .. 7", RingBoundaryTests::firstAndLastNode);
    }

    private static void pointsOfMembers() {
        ShardRing x = new ShardRing(1, 16);
        Checks.due("the most", () -> x.points(0), 16);
        x.join(7, 1);
        Checks.due("the least", () -> x.points(7), 1);
        Checks.due("the others keep theirs", () -> x.points(0), 16);
    }

    private static void pointsOfNoMember() {
        ShardRing x = new ShardRing(7, 3);
        Checks.due("never one", () -> x.points(7), 0);
        x.leave(6);
        Checks.due("no more, while its plan is there", () -> x.points(6), 0);
        x.step();
        Checks.due("no more", () -> x.points(6), 0);
        x.join(6, 16);
        Checks.due("again, with others", () -> x.points(6), 16);
    }

    private static void firstAndLastNode() {
        ShardRing x = new ShardRing(8, 16);
        for (int node : new int[] {0, 7}) {
            Checks.due("points(" + node + ")", () -> x.points(node), 16);
            Checks.due("size(" + node + ")", () -> x.size(node), 0);
            Checks.due("holds(" + node + ", 1)", () -> x.holds(node, 1), false);
            Checks.due("leave(" + node + ")", () -> x.leave(node), 0);
            x.step();
            Checks.due("share(" + node + ")", () -> x.share(node), 0L);
            Checks.due("join(" + node + ", 16)", () -> x.join(node, 16), 0);
            x.step();
        }
    }

    private static void shares() {
        Checks.sentence("Promise 21: of all 2147483648", RingBoundaryTests::shareOfTheOnlyMember);
        Checks.sentence("Promise 21: the shares of all nodes together", RingBoundaryTests::sharesTogether);
        Checks.sentence("Promise 21: up to the point and from behind the one before", RingBoundaryTests::sharesToThePlace);
        Checks.sentence("Promise 21: round the end of the places", RingBoundaryTests::sharesRoundTheEnd);
        Checks.sentence("Promise 21: 0 of no member", RingBoundaryTests::shareOfNoMember);
        Checks.sentence("Promise 21: by the new members, with a plan", RingBoundaryTests::shareWithAPlan);
    }

    private static void shareOfTheOnlyMember() {
        for (int points : new int[] {1, 2, 16}) {
            ShardRing x = new ShardRing(1, points);
            Checks.due("the only member with " + points, () -> x.share(0), ALL_PLACES);
        }
    }

    private static void sharesTogether() {
        for (int nodes = 1; nodes <= 8; nodes++) {
            for (int points = 1; points <= 16; points++) {
                ShardRing x = new ShardRing(nodes, points);
                Checks.due(nodes + " nodes with " + points, () -> sumOfShares(x), ALL_PLACES);
            }
        }
    }

    private static long sumOfShares(ShardRing x) {
        long sum = 0;
        for (int node = 0; node < 8; node++) {
            sum += x.share(node);
        }
        return sum;
    }

    private static void sharesToThePlace() {
        ShardRing x = new ShardRing(3, 1);
        Checks.due("node 2, behind node 0", () -> x.share(2), 1525290039L - 52752509);
        Checks.due("node 1, behind node 2", () -> x.share(1), 1862763098L - 1525290039);
    }

    private static void sharesRoundTheEnd() {
        ShardRing x = new ShardRing(3, 1);
        Checks.due("node 0, the first and behind the last", () -> x.share(0), 52752509 + (ALL_PLACES - 1862763098));
        ShardRing y = new ShardRing(2, 2);
        // Node 0 at 52752509 and 1379970393, node 1 at 1042497335 and 1862763098.
        Checks.due("node 0 of two points each", () -> y.share(0),
            52752509 + (ALL_PLACES - 1862763098) + (1379970393 - 1042497335));
        Checks.due("node 1 of two points each", () -> y.share(1), (1042497335L - 52752509) + (1862763098 - 1379970393));
    }

    private static void shareOfNoMember() {
        ShardRing x = new ShardRing(7, 16);
        Checks.due("never one", () -> x.share(7), 0L);
        x.leave(0);
        Checks.due("no more", () -> x.share(0), 0L);
    }

    private static void shareWithAPlan() {
        ShardRing x = Rings.moving(0);
        Checks.due("the new member", () -> x.share(2), 1525290039L - 52752509);
        Checks.due("the one before it", () -> x.share(1), 1862763098L - 1525290039);
        Rings.finish(x, 3);
        x.leave(2);
        Checks.due("the one that leaves", () -> x.share(2), 0L);
        Checks.due("the one behind it", () -> x.share(1), 1862763098L - 52752509);
    }
}
