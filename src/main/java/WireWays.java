/** Least ways among routers on shared wires, whose ports have costs, as wires are cut and mended. */
public final class WireWays {
    public static final int NONE = -1;

    private static final int MOST_ROUTERS = 10;
    private static final int PORTS = 4;
    private static final int WIRES = 16;
    private static final int MOST_COST = 9;

    // Above every sum of costs that a way can have, and low enough that a cost added to it does not wrap.
    private static final int UNREACHED = 1000000;

    private final int routers;

    // One place for each port, by placeOf; the wire is NONE where the port is on none.
    private final int[] wireAt;
    private final int[] costAt;

    private final boolean[] isCut;

    // Scratch rows of measure, made once because all calls share one room.
    private final int[] distance;
    private final int[] nearest;

    // What findWay found last.
    private int wayPort;
    private int wayRouter;

    public WireWays(int routers) {
        this.routers = Math.max(1, Math.min(MOST_ROUTERS, routers));
        wireAt = new int[MOST_ROUTERS * PORTS];
        costAt = new int[MOST_ROUTERS * PORTS];
        isCut = new boolean[WIRES];
        distance = new int[MOST_ROUTERS];
        nearest = new int[WIRES];
        wayPort = NONE;
        wayRouter = NONE;
        for (int place = 0; place < wireAt.length; place++) {
            wireAt[place] = NONE;
        }
    }

    public boolean plug(int r, int p, int wire, int cost) {
        if (!isPort(r, p) || !isWire(wire) || !isCost(cost)) {
            return false;
        }
        int place = placeOf(r, p);
        if (isWire(wireAt[place]) || portOn(r, wire) != NONE) {
            return false;
        }
        wireAt[place] = wire;
        costAt[place] = cost;
        return true;
    }

    public boolean draw(int r, int p) {
        if (!isPluggedPort(r, p)) {
            return false;
        }
        wireAt[placeOf(r, p)] = NONE;
        return true;
    }

    public int cost(int r, int p, int cost) {
        if (!isPluggedPort(r, p) || !isCost(cost)) {
            return NONE;
        }
        int place = placeOf(r, p);
        int before = costAt[place];
        costAt[place] = cost;
        return before;
    }

    public boolean cut(int wire) {
        if (!isUp(wire)) {
            return false;
        }
        isCut[wire] = true;
        return true;
    }

    public boolean mend(int wire) {
        if (!isWire(wire) || !isCut[wire]) {
            return false;
        }
        isCut[wire] = false;
        return true;
    }

    public int far(int r, boolean over, int t) {
        return canCome(r, over, t) ? distance[r] : NONE;
    }

    public int port(int r, boolean over, int t) {
        if (!canCome(r, over, t)) {
            return NONE;
        }
        findWay(r, over, t);
        return wayPort;
    }

    public int next(int r, boolean over, int t) {
        if (!canCome(r, over, t)) {
            return NONE;
        }
        findWay(r, over, t);
        return wayRouter;
    }

    public int walk(int r, boolean over, int t, int k) {
        // Each step lessens the distance, so no router comes twice and no walk has more than all of them.
        if (k < 0 || k >= routers || !canCome(r, over, t)) {
            return NONE;
        }
        int at = r;
        for (int step = 0; step < k; step++) {
            findWay(at, over, t);
            if (!isRouter(wayRouter)) {
                return NONE;
            }
            at = wayRouter;
        }
        return at;
    }

    public int reach(int r) {
        if (!isRouter(r)) {
            return NONE;
        }
        // A wire that leads there leads back too, so those that come to r are those to whom r comes.
        measure(false, r);
        int reached = 0;
        for (int s = 0; s < routers; s++) {
            if (distance[s] < UNREACHED) {
                reached++;
            }
        }
        return reached;
    }

    public int count(int what) {
        switch (what) {
            case 0:
                return routers;
            case 1:
                return pluggedPorts();
            case 2:
                return cutWires();
            case 3:
                return greatestDistance();
            default:
                return NONE;
        }
    }

    private boolean isRouter(int r) {
        return r >= 0 && r < routers;
    }

    private boolean isPort(int r, int p) {
        return isRouter(r) && p >= 0 && p < PORTS;
    }

    private boolean isPluggedPort(int r, int p) {
        return isPort(r, p) && isWire(wireAt[placeOf(r, p)]);
    }

    private static boolean isWire(int wire) {
        return wire >= 0 && wire < WIRES;
    }

    private boolean isUp(int wire) {
        return isWire(wire) && !isCut[wire];
    }

    private static boolean isCost(int cost) {
        return cost >= 1 && cost <= MOST_COST;
    }

    private boolean isAim(boolean over, int t) {
        return over ? isUp(t) : isRouter(t);
    }

    private static int placeOf(int r, int p) {
        return r * PORTS + p;
    }

    private int portOn(int r, int wire) {
        for (int p = 0; p < PORTS; p++) {
            if (wireAt[placeOf(r, p)] == wire) {
                return p;
            }
        }
        return NONE;
    }

    /** Whether there is a distance; if so, the row of distances is that of this aim afterwards. */
    private boolean canCome(int r, boolean over, int t) {
        if (!isRouter(r) || !isAim(over, t)) {
            return false;
        }
        measure(over, t);
        return distance[r] < UNREACHED;
    }

    /** Fills the row of distances, from each router to an aim that there is. */
    private void measure(boolean over, int t) {
        for (int r = 0; r < routers; r++) {
            boolean there = over ? portOn(r, t) != NONE : r == t;
            distance[r] = there ? 0 : UNREACHED;
        }
        // Round n settles the ways of n steps, and a least way has fewer steps than there are routers.
        boolean changed = true;
        for (int round = 0; changed && round < routers; round++) {
            findNearest();
            changed = shortenDistances();
        }
    }

    /** Finds for each wire the least distance that a router on it has. */
    private void findNearest() {
        for (int wire = 0; wire < WIRES; wire++) {
            nearest[wire] = UNREACHED;
        }
        for (int r = 0; r < routers; r++) {
            for (int p = 0; p < PORTS; p++) {
                int wire = wireAt[placeOf(r, p)];
                if (isUp(wire) && distance[r] < nearest[wire]) {
                    nearest[wire] = distance[r];
                }
            }
        }
    }

    private boolean shortenDistances() {
        boolean changed = false;
        for (int r = 0; r < routers; r++) {
            for (int p = 0; p < PORTS; p++) {
                int place = placeOf(r, p);
                int wire = wireAt[place];
                // The nearest router may be r itself: then the sum is above r's distance and changes nothing.
                if (isUp(wire) && costAt[place] + nearest[wire] < distance[r]) {
                    distance[r] = costAt[place] + nearest[wire];
                    changed = true;
                }
            }
        }
        return changed;
    }

    /** Sets the port and the router of the way, by the row of distances to the same aim. */
    private void findWay(int r, boolean over, int t) {
        wayPort = NONE;
        wayRouter = NONE;
        if (distance[r] == 0) {
            // r is the aim, or is on it: no router follows.
            wayPort = over ? portOn(r, t) : NONE;
            return;
        }
        int least = UNREACHED;
        for (int p = 0; p < PORTS; p++) {
            int place = placeOf(r, p);
            int other = isUp(wireAt[place]) ? nearestOther(r, wireAt[place]) : NONE;
            if (isRouter(other) && costAt[place] + distance[other] < least) {
                least = costAt[place] + distance[other];
                wayPort = p;
                wayRouter = other;
            }
        }
    }

    /** The router on a wire, other than r, of the least distance, then of the least number. */
    private int nearestOther(int r, int wire) {
        int best = NONE;
        int least = UNREACHED;
        for (int s = 0; s < routers; s++) {
            if (s != r && distance[s] < least && portOn(s, wire) != NONE) {
                best = s;
                least = distance[s];
            }
        }
        return best;
    }

    private int pluggedPorts() {
        int plugged = 0;
        for (int place = 0; place < wireAt.length; place++) {
            if (isWire(wireAt[place])) {
                plugged++;
            }
        }
        return plugged;
    }

    private int cutWires() {
        int found = 0;
        for (int wire = 0; wire < WIRES; wire++) {
            if (isCut[wire]) {
                found++;
            }
        }
        return found;
    }

    private int greatestDistance() {
        int greatest = 0;
        for (int t = 0; t < routers; t++) {
            measure(false, t);
            for (int r = 0; r < routers; r++) {
                if (distance[r] < UNREACHED && distance[r] > greatest) {
                    greatest = distance[r];
                }
            }
        }
        return greatest;
    }
}
