import java.util.ArrayList;
import java.util.Comparator;
import java.util.List;
import java.util.Map;
import java.util.Random;
import java.util.TreeMap;
import java.util.TreeSet;

// Runs of 512 drawn calls (always the same ones), compared with a plain model that is built in another way:
// distances between all pairs at once, ways by sorting all candidates.
public final class ModelTest {
    private static final int RUNS = 2000;
    private static final int CALLS = 512;
    private static final int MOST_SHOWN = 20;

    private static final class Model {
        record Plug(int wire, int cost) { }

        record Candidate(int sum, int port, int router) { }

        final int routers;
        final List<Map<Integer, Plug>> ports = new ArrayList<>();
        final TreeSet<Integer> cut = new TreeSet<>();

        Model(int routers) {
            this.routers = routers < 1 ? 1 : routers > 10 ? 10 : routers;
            for (int r = 0; r < this.routers; r++) {
                ports.add(new TreeMap<>());
            }
        }

        boolean in(int value, int low, int high) {
            return low <= value && value <= high;
        }

        boolean router(int r) {
            return in(r, 0, routers - 1);
        }

        boolean on(int r, int wire) {
            return ports.get(r).values().stream().anyMatch(plug -> plug.wire() == wire);
        }

        int plug(int r, int p, int wire, int cost) {
            boolean fine = router(r) && in(p, 0, 3) && in(wire, 0, 15) && in(cost, 1, 9)
                && !ports.get(r).containsKey(p) && !on(r, wire);
            if (fine) {
                ports.get(r).put(p, new Plug(wire, cost));
            }
            return fine ? 1 : 0;
        }

        int draw(int r, int p) {
            return router(r) && ports.get(r).remove(p) != null ? 1 : 0;
        }

        int cost(int r, int p, int cost) {
            if (!router(r) || !ports.get(r).containsKey(p) || !in(cost, 1, 9)) {
                return -1;
            }
            Plug before = ports.get(r).get(p);
            ports.get(r).put(p, new Plug(before.wire(), cost));
            return before.cost();
        }

        int cut(int wire) {
            return in(wire, 0, 15) && cut.add(wire) ? 1 : 0;
        }

        int mend(int wire) {
            return cut.remove(wire) ? 1 : 0;
        }

        Integer[][] pairs() {
            Integer[][] d = new Integer[routers][routers];
            for (int a = 0; a < routers; a++) {
                for (Plug plug : ports.get(a).values()) {
                    for (int b = 0; b < routers; b++) {
                        if (!cut.contains(plug.wire()) && on(b, plug.wire())) {
                            d[a][b] = d[a][b] == null ? plug.cost() : Math.min(d[a][b], plug.cost());
                        }
                    }
                }
                d[a][a] = 0;
            }
            for (int m = 0; m < routers; m++) {
                for (int a = 0; a < routers; a++) {
                    for (int b = 0; b < routers; b++) {
                        if (d[a][m] != null && d[m][b] != null
                            && (d[a][b] == null || d[a][m] + d[m][b] < d[a][b])) {
                            d[a][b] = d[a][m] + d[m][b];
                        }
                    }
                }
            }
            return d;
        }

        int far(int r, boolean over, int t) {
            if (!router(r) || (over ? !in(t, 0, 15) || cut.contains(t) : !router(t))) {
                return -1;
            }
            Integer[][] d = pairs();
            int best = -1;
            for (int s = 0; s < routers; s++) {
                boolean ends = over ? on(s, t) : s == t;
                if (ends && d[r][s] != null && (best < 0 || d[r][s] < best)) {
                    best = d[r][s];
                }
            }
            return best;
        }

        Candidate way(int r, boolean over, int t) {
            if (far(r, over, t) < 0 || (!over && r == t)) {
                return new Candidate(0, -1, -1);
            }
            List<Candidate> all = new ArrayList<>();
            for (Map.Entry<Integer, Plug> entry : ports.get(r).entrySet()) {
                Plug plug = entry.getValue();
                if (over && plug.wire() == t) {
                    return new Candidate(0, entry.getKey(), -1);
                }
                for (int s = 0; s < routers && !cut.contains(plug.wire()); s++) {
                    if (s != r && on(s, plug.wire()) && far(s, over, t) >= 0) {
                        all.add(new Candidate(plug.cost() + far(s, over, t), entry.getKey(), s));
                    }
                }
            }
            all.sort(Comparator.comparingInt(Candidate::sum)
                .thenComparingInt(Candidate::port).thenComparingInt(Candidate::router));
            return all.get(0);
        }

        int walk(int r, boolean over, int t, int k) {
            if (far(r, over, t) < 0) {
                return -1;
            }
            List<Integer> routersOfWalk = new ArrayList<>();
            for (int at = r; at >= 0; at = way(at, over, t).router()) {
                routersOfWalk.add(at);
            }
            return in(k, 0, routersOfWalk.size() - 1) ? routersOfWalk.get(k) : -1;
        }

        int reach(int r) {
            if (!router(r)) {
                return -1;
            }
            TreeSet<Integer> seen = new TreeSet<>(List.of(r));
            for (int round = 0; round < routers; round++) {
                for (int a : new ArrayList<>(seen)) {
                    for (Plug plug : ports.get(a).values()) {
                        for (int b = 0; b < routers && !cut.contains(plug.wire()); b++) {
                            if (on(b, plug.wire())) {
                                seen.add(b);
                            }
                        }
                    }
                }
            }
            return seen.size();
        }

        int count(int what) {
            return switch (what) {
                case 0 -> routers;
                case 1 -> ports.stream().mapToInt(Map::size).sum();
                case 2 -> cut.size();
                case 3 -> greatest();
                default -> -1;
            };
        }

        int greatest() {
            int greatest = 0;
            for (Integer[] row : pairs()) {
                for (Integer distance : row) {
                    greatest = distance == null ? greatest : Math.max(greatest, distance);
                }
            }
            return greatest;
        }
    }

    private static int wrong = 0;

    private final Random random;
    private final WireWays x;
    private final Model model;
    private final int wires;
    private final int costs;
    private final int changes;
    private final int run;

    private ModelTest(int run) {
        this.run = run;
        random = new Random(run);
        int routers = random.nextInt(4) == 0 ? random.nextInt(16) - 3 : 3 + random.nextInt(8);
        x = new WireWays(routers);
        model = new Model(routers);
        // Few wires make shared ones, many make long walks; few costs make ties.
        wires = 2 + random.nextInt(15);
        costs = 1 + random.nextInt(9);
        changes = 20 + random.nextInt(60);
    }

    private void due(String call, int got, int want) {
        if (got != want) {
            wrong++;
            if (wrong <= MOST_SHOWN) {
                System.out.println("run " + run + ": " + call + " answered " + got + ", due is " + want);
            }
        }
    }

    private int drawn(int low, int high) {
        int kind = random.nextInt(60);
        if (kind == 0) {
            return random.nextInt();
        }
        if (kind == 1) {
            return random.nextBoolean() ? low - 1 : high + 1;
        }
        if (kind == 2) {
            return random.nextBoolean() ? Integer.MIN_VALUE : Integer.MAX_VALUE;
        }
        return low + random.nextInt(high - low + 1);
    }

    private void change() {
        int r = drawn(0, model.routers - 1);
        int p = drawn(0, 3);
        int wire = random.nextInt(40) == 0 ? drawn(0, 15) : drawn(0, wires - 1);
        int cost = random.nextInt(40) == 0 ? drawn(1, 9) : drawn(1, costs);
        int kind = random.nextInt(20);
        if (kind < 10) {
            due("plug(" + r + ", " + p + ", " + wire + ", " + cost + ")",
                x.plug(r, p, wire, cost) ? 1 : 0, model.plug(r, p, wire, cost));
        } else if (kind < 12) {
            due("draw(" + r + ", " + p + ")", x.draw(r, p) ? 1 : 0, model.draw(r, p));
        } else if (kind < 15) {
            due("cost(" + r + ", " + p + ", " + cost + ")", x.cost(r, p, cost), model.cost(r, p, cost));
        } else if (kind < 17) {
            due("cut(" + wire + ")", x.cut(wire) ? 1 : 0, model.cut(wire));
        } else {
            due("mend(" + wire + ")", x.mend(wire) ? 1 : 0, model.mend(wire));
        }
    }

    private void ask() {
        int r = drawn(0, model.routers - 1);
        boolean over = random.nextInt(3) == 0;
        int t = over ? drawn(0, wires - 1) : drawn(0, model.routers - 1);
        int k = drawn(0, random.nextBoolean() ? 3 : 10);
        String aim = "(" + r + ", " + over + ", " + t;
        switch (random.nextInt(7)) {
            case 0, 1 -> due("far" + aim + ")", x.far(r, over, t), model.far(r, over, t));
            case 2 -> due("port" + aim + ")", x.port(r, over, t), model.way(r, over, t).port());
            case 3 -> due("next" + aim + ")", x.next(r, over, t), model.way(r, over, t).router());
            case 4 -> due("walk" + aim + ", " + k + ")", x.walk(r, over, t, k), model.walk(r, over, t, k));
            case 5 -> due("reach(" + r + ")", x.reach(r), model.reach(r));
            default -> {
                int what = drawn(0, 3);
                due("count(" + what + ")", x.count(what), model.count(what));
            }
        }
    }

    private void calls() {
        for (int call = 0; call < CALLS; call++) {
            if (call < 20 || random.nextInt(100) < changes) {
                change();
            } else {
                ask();
            }
        }
    }

    public static void main(String[] args) {
        for (int run = 0; run < RUNS; run++) {
            new ModelTest(run).calls();
        }
        System.out.println(wrong == 0 ? "all answers are as due" : wrong + " answers are not as due");
        if (wrong != 0) {
            System.exit(1);
        }
    }
}
