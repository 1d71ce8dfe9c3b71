// For each promise: ordinary inputs, the edges that the document names, and wrong inputs.
public final class PromisesTest {
    private static final int NONE = WireWays.NONE;
    private static final int[] EXTREMES = {Integer.MIN_VALUE, -1000, -2, -1, 1000, Integer.MAX_VALUE};

    private static int wrong = 0;

    private static void due(String call, int got, int want) {
        if (got != want) {
            wrong++;
            System.out.println(call + " answered " + got + ", due is " + want);
        }
    }

    private static void due(String call, boolean got, boolean want) {
        due(call, got ? 1 : 0, want ? 1 : 0);
    }

    public static void main(String[] args) {
        due("NONE", NONE, -1);
        newObject();
        plug();
        plugRefused();
        draw();
        cost();
        cut();
        mend();
        far();
        farToWires();
        farWrong();
        wayTies();
        wayToWires();
        wayWithout();
        walk();
        walkToWires();
        longestWalk();
        reach();
        counts();
        refusedCallsChangeNothing();
        objectsAreApart();
        allCallsOfOneObject();
        System.out.println(wrong == 0 ? "all answers are as due" : wrong + " answers are not as due");
        if (wrong != 0) {
            System.exit(1);
        }
    }

    // Routers 0 - 1 - 2 - .. in a row: wire i joins i (by its port 1) and i + 1 (by its port 0).
    private static WireWays row(int routers, int costUp, int costDown) {
        WireWays x = new WireWays(routers);
        for (int i = 0; i + 1 < routers; i++) {
            due("row: plug up", x.plug(i, 1, i, costUp), true);
            due("row: plug down", x.plug(i + 1, 0, i, costDown), true);
        }
        return x;
    }

    // Promise 1
    private static void newObject() {
        int[] asked = {Integer.MIN_VALUE, -1, 0, 1, 2, 5, 9, 10, 11, 1000, Integer.MAX_VALUE};
        int[] made = {1, 1, 1, 1, 2, 5, 9, 10, 10, 10, 10};
        for (int i = 0; i < asked.length; i++) {
            WireWays x = new WireWays(asked[i]);
            due("new(" + asked[i] + "): count(0)", x.count(0), made[i]);
            due("new: count(1)", x.count(1), 0);
            due("new: count(2)", x.count(2), 0);
            due("new: count(3)", x.count(3), 0);
            for (int r = 0; r < made[i]; r++) {
                due("new: reach", x.reach(r), 1);
                for (int p = 0; p < 4; p++) {
                    due("new: draw", x.draw(r, p), false);
                }
            }
            due("new: reach behind the last", x.reach(made[i]), NONE);
        }
    }

    // Promise 2
    private static void plug() {
        WireWays x = new WireWays(10);
        due("plug first of all", x.plug(0, 0, 0, 1), true);
        due("plug last of all", x.plug(9, 3, 15, 9), true);
        due("plug a port again", x.plug(0, 0, 1, 1), false);
        due("plug a port again on the same wire", x.plug(0, 0, 0, 1), false);
        due("plug another port of the router there", x.plug(0, 1, 0, 1), false);
        due("plug another port elsewhere", x.plug(0, 1, 1, 1), true);
        due("plug another router there", x.plug(1, 1, 0, 2), true);
        due("cut", x.cut(7), true);
        due("plug on a cut wire", x.plug(2, 0, 7, 3), true);
        due("plug on a cut wire where the router is", x.plug(2, 1, 7, 3), false);
        due("count(1)", x.count(1), 5);
        due("draw", x.draw(0, 0), true);
        due("plug another port when the first is drawn", x.plug(0, 2, 0, 4), true);
        due("plug the drawn port elsewhere", x.plug(0, 0, 2, 5), true);
        due("the cost is the new one", x.cost(0, 0, 5), 5);
    }

    private static void plugRefused() {
        WireWays x = new WireWays(3);
        due("plug r 3 of 3", x.plug(3, 0, 0, 1), false);
        due("plug p 4", x.plug(0, 4, 0, 1), false);
        due("plug wire 16", x.plug(0, 0, 16, 1), false);
        due("plug cost 0", x.plug(0, 0, 0, 0), false);
        due("plug cost 10", x.plug(0, 0, 0, 10), false);
        for (int bad : EXTREMES) {
            due("plug r " + bad, x.plug(bad, 0, 0, 1), false);
            due("plug p " + bad, x.plug(0, bad, 0, 1), false);
            due("plug wire " + bad, x.plug(0, 0, bad, 1), false);
            due("plug cost " + bad, x.plug(0, 0, 0, bad), false);
            due("plug all " + bad, x.plug(bad, bad, bad, bad), false);
        }
        due("count(1)", x.count(1), 0);
        due("plug after all that", x.plug(0, 0, 0, 1), true);
    }

    // Promise 3
    private static void draw() {
        WireWays x = row(3, 1, 1);
        due("far before", x.far(0, false, 2), 2);
        due("draw a port that is on none", x.draw(0, 0), false);
        due("draw r 3 of 3", x.draw(3, 0), false);
        due("draw p 4", x.draw(0, 4), false);
        for (int bad : EXTREMES) {
            due("draw r " + bad, x.draw(bad, 0), false);
            due("draw p " + bad, x.draw(1, bad), false);
        }
        due("count(1) before", x.count(1), 4);
        due("draw", x.draw(1, 1), true);
        due("draw again", x.draw(1, 1), false);
        due("count(1) after", x.count(1), 3);
        due("far after", x.far(0, false, 2), NONE);
        due("far to the one that is left", x.far(0, false, 1), 1);
        due("far to the wire that 2 alone is on", x.far(2, true, 1), 0);
        due("cut", x.cut(0), true);
        due("draw of a cut wire", x.draw(0, 1), true);
        due("mend", x.mend(0), true);
        due("far over the mended wire", x.far(1, false, 0), NONE);
    }

    // Promise 4
    private static void cost() {
        WireWays x = row(2, 3, 4);
        due("cost", x.cost(0, 1, 9), 3);
        due("cost again", x.cost(0, 1, 9), 9);
        due("far by the new cost", x.far(0, false, 1), 9);
        due("far back", x.far(1, false, 0), 4);
        due("cost 1", x.cost(0, 1, 1), 9);
        due("cost 0", x.cost(0, 1, 0), NONE);
        due("cost 10", x.cost(0, 1, 10), NONE);
        due("cost of a port on none", x.cost(0, 0, 5), NONE);
        due("cost r 2 of 2", x.cost(2, 0, 5), NONE);
        due("cost p 4", x.cost(0, 4, 5), NONE);
        for (int bad : EXTREMES) {
            due("cost r " + bad, x.cost(bad, 0, 5), NONE);
            due("cost p " + bad, x.cost(1, bad, 5), NONE);
            due("cost " + bad, x.cost(0, 1, bad), NONE);
        }
        due("cut", x.cut(0), true);
        due("cost on a cut wire", x.cost(0, 1, 7), 1);
        due("mend", x.mend(0), true);
        due("far by the cost given while cut", x.far(0, false, 1), 7);
        due("draw", x.draw(0, 1), true);
        due("cost of a drawn port", x.cost(0, 1, 5), NONE);
        due("plug it again", x.plug(0, 1, 0, 2), true);
        due("the cost of the second plug", x.cost(0, 1, 2), 2);
    }

    // Promise 5
    private static void cut() {
        WireWays x = row(3, 1, 2);
        due("cut", x.cut(0), true);
        due("cut again", x.cut(0), false);
        due("cut the last", x.cut(15), true);
        due("cut 16", x.cut(16), false);
        for (int bad : EXTREMES) {
            due("cut " + bad, x.cut(bad), false);
        }
        due("count(2)", x.count(2), 2);
        due("far over the cut wire", x.far(0, false, 1), NONE);
        due("far over the other one", x.far(1, false, 2), 1);
        due("far to the cut wire", x.far(1, true, 0), NONE);
        due("port to the cut wire", x.port(1, true, 0), NONE);
        due("ports stay on it", x.count(1), 4);
    }

    // Promise 6
    private static void mend() {
        WireWays x = row(3, 1, 2);
        due("mend what is up", x.mend(0), false);
        due("cut 0", x.cut(0), true);
        due("cut 15", x.cut(15), true);
        due("mend 16", x.mend(16), false);
        for (int bad : EXTREMES) {
            due("mend " + bad, x.mend(bad), false);
        }
        due("count(2)", x.count(2), 2);
        due("mend", x.mend(0), true);
        due("mend again", x.mend(0), false);
        due("count(2) after", x.count(2), 1);
        due("far over the mended wire", x.far(0, false, 2), 2);
        due("mend the last", x.mend(15), true);
        due("cut it again", x.cut(15), true);
    }

    // Promise 7
    private static void far() {
        WireWays x = row(10, 9, 8);
        due("far the whole row up", x.far(0, false, 9), 81);
        due("far the whole row down", x.far(9, false, 0), 72);
        due("far to itself", x.far(4, false, 4), 0);
        due("plug a dear short cut", x.plug(0, 3, 15, 9), true);
        due("plug its end", x.plug(8, 3, 15, 1), true);
        due("far by the short cut", x.far(0, false, 9), 18);
        due("far back by it", x.far(9, false, 0), 9);
        due("far by the end and down", x.far(0, false, 7), 17);
        due("far where the row is less", x.far(0, false, 1), 9);

        WireWays shared = new WireWays(4);
        for (int r = 0; r < 4; r++) {
            due("plug on the shared wire", shared.plug(r, r, 5, r + 1), true);
        }
        for (int r = 0; r < 4; r++) {
            for (int t = 0; t < 4; t++) {
                due("far on the shared wire", shared.far(r, false, t), r == t ? 0 : r + 1);
            }
        }
    }

    private static void farToWires() {
        WireWays x = row(4, 2, 3);
        due("far to a wire of its own", x.far(1, true, 0), 0);
        due("far to its other wire", x.far(1, true, 1), 0);
        due("far to a wire of the next", x.far(1, true, 2), 2);
        due("far to a wire down the row", x.far(3, true, 0), 6);
        due("far to a wire with no port", x.far(0, true, 9), NONE);
        due("plug one that stands apart from 0", x.draw(1, 1), true);
        due("far to a wire one can't come to", x.far(0, true, 2), NONE);
        due("far to it from its side", x.far(3, true, 1), 3);
    }

    private static void farWrong() {
        WireWays x = row(3, 1, 1);
        due("far r 3 of 3", x.far(3, false, 0), NONE);
        due("far t 3 of 3", x.far(0, false, 3), NONE);
        due("far r 3 of 3 to itself", x.far(3, false, 3), NONE);
        due("far wire 16", x.far(0, true, 16), NONE);
        due("far wire from none such", x.far(3, true, 0), NONE);
        for (int bad : EXTREMES) {
            due("far r " + bad, x.far(bad, false, 0), NONE);
            due("far t " + bad, x.far(0, false, bad), NONE);
            due("far r, t " + bad, x.far(bad, false, bad), NONE);
            due("far wire " + bad, x.far(0, true, bad), NONE);
        }
    }

    private static void dueWay(String text, WireWays x, int r, boolean over, int t, int port, int next) {
        String call = text + " (" + r + ", " + over + ", " + t + ")";
        due("port: " + call, x.port(r, over, t), port);
        due("next: " + call, x.next(r, over, t), next);
    }

    // Promises 8 and 9
    private static void wayTies() {
        // From 0 to 3: by wire 0 over 1 or 2, by wire 1 over 1; all sums alike.
        WireWays x = new WireWays(4);
        x.plug(0, 2, 0, 2);
        x.plug(2, 0, 0, 1);
        x.plug(1, 0, 0, 1);
        x.plug(0, 1, 1, 2);
        x.plug(2, 1, 1, 1);
        x.plug(2, 2, 2, 3);
        x.plug(1, 2, 2, 3);
        x.plug(3, 0, 2, 1);
        due("far", x.far(0, false, 3), 5);
        dueWay("the least port goes before the least router", x, 0, false, 3, 1, 2);
        due("draw", x.draw(0, 1), true);
        dueWay("the least router of one port", x, 0, false, 3, 2, 1);
        due("cost", x.cost(1, 2, 4), 3);
        dueWay("the least sum goes before the least router", x, 0, false, 3, 2, 2);
        due("plug", x.plug(0, 0, 1, 3), true);
        dueWay("the least sum goes before the least port", x, 0, false, 3, 2, 2);
        due("cost", x.cost(0, 0, 2), 3);
        dueWay("alike again: the least port", x, 0, false, 3, 0, 2);
        due("cut", x.cut(1), true);
        dueWay("no way over a cut wire", x, 0, false, 3, 2, 2);

        // The neighbour itself is dearer to come to at once than round about.
        WireWays round = new WireWays(3);
        round.plug(0, 0, 0, 9);
        round.plug(2, 0, 0, 1);
        round.plug(0, 1, 1, 1);
        round.plug(1, 1, 1, 1);
        round.plug(1, 2, 2, 1);
        round.plug(2, 2, 2, 1);
        dueWay("round about", round, 0, false, 2, 1, 1);
        due("cost", round.cost(0, 0, 2), 9);
        dueWay("alike: at once by the lesser port", round, 0, false, 2, 0, 2);
    }

    private static void wayToWires() {
        WireWays x = row(4, 2, 3);
        dueWay("direct by port 1", x, 1, true, 1, 1, NONE);
        dueWay("direct by port 0", x, 1, true, 0, 0, NONE);
        dueWay("by the next", x, 1, true, 2, 1, 2);
        dueWay("down the row", x, 3, true, 0, 0, 2);
        due("cut", x.cut(0), true);
        dueWay("a cut wire of its own", x, 1, true, 0, NONE, NONE);
        dueWay("a cut wire", x, 3, true, 0, NONE, NONE);
        due("mend", x.mend(0), true);
        due("plug a way that is cheaper", x.plug(1, 3, 8, 1), true);
        due("plug its end", x.plug(0, 3, 8, 1), true);
        due("plug on a wire of 0 alone", x.plug(0, 2, 9, 9), true);
        dueWay("by the cheaper port", x, 1, true, 9, 3, 0);
        dueWay("direct, though its cost is 9", x, 0, true, 9, 2, NONE);
        due("cut the wire of the cheaper port", x.cut(8), true);
        dueWay("by the port that is left", x, 1, true, 9, 0, 0);

        // Of two that are on the aim the lesser one, and it is no matter what their ports there cost.
        WireWays two = new WireWays(3);
        two.plug(0, 0, 0, 4);
        two.plug(1, 0, 0, 1);
        two.plug(2, 0, 0, 1);
        two.plug(1, 1, 3, 9);
        two.plug(2, 1, 3, 1);
        due("far", two.far(0, true, 3), 4);
        dueWay("the lesser of two", two, 0, true, 3, 0, 1);
    }

    private static void wayWithout() {
        WireWays x = row(3, 1, 1);
        dueWay("to itself", x, 1, false, 1, NONE, NONE);
        dueWay("a wire with no port", x, 1, true, 9, NONE, NONE);
        due("draw", x.draw(1, 1), true);
        dueWay("can't come", x, 0, false, 2, NONE, NONE);
        dueWay("none such", x, 3, false, 0, NONE, NONE);
        dueWay("none such", x, 0, false, 3, NONE, NONE);
        dueWay("none such", x, 0, true, 16, NONE, NONE);
        for (int bad : EXTREMES) {
            dueWay("none such", x, bad, false, 0, NONE, NONE);
            dueWay("none such", x, 0, false, bad, NONE, NONE);
            dueWay("none such", x, bad, true, 0, NONE, NONE);
            dueWay("none such", x, 0, true, bad, NONE, NONE);
        }
    }

    // Promise 10
    private static void walk() {
        WireWays x = row(4, 1, 1);
        for (int k = 0; k < 4; k++) {
            due("walk up " + k, x.walk(0, false, 3, k), k);
            due("walk down " + k, x.walk(3, false, 0, k), 3 - k);
        }
        due("walk behind the end", x.walk(0, false, 3, 4), NONE);
        due("walk behind the end of a short one", x.walk(0, false, 1, 2), NONE);
        due("walk to itself 0", x.walk(2, false, 2, 0), 2);
        due("walk to itself 1", x.walk(2, false, 2, 1), NONE);
        for (int k : EXTREMES) {
            due("walk k " + k, x.walk(0, false, 3, k), NONE);
            due("walk r " + k, x.walk(k, false, 3, 0), NONE);
            due("walk t " + k, x.walk(0, false, k, 0), NONE);
            due("walk wire " + k, x.walk(0, true, k, 0), NONE);
        }
        due("walk r 4 of 4", x.walk(4, false, 0, 0), NONE);
        due("walk t 4 of 4", x.walk(0, false, 4, 0), NONE);
        due("walk wire 16", x.walk(0, true, 16, 0), NONE);
        due("cut", x.cut(1), true);
        due("walk without a distance", x.walk(0, false, 3, 0), NONE);
        due("walk without a distance 1", x.walk(0, false, 3, 1), NONE);
        due("walk on this side of the cut", x.walk(0, false, 1, 1), 1);
    }

    private static void walkToWires() {
        WireWays x = row(4, 1, 1);
        due("walk, direct, 0", x.walk(1, true, 1, 0), 1);
        due("walk, direct, 1", x.walk(1, true, 1, 1), NONE);
        due("walk to a wire 0", x.walk(0, true, 2, 0), 0);
        due("walk to a wire 1", x.walk(0, true, 2, 1), 1);
        due("walk to a wire 2", x.walk(0, true, 2, 2), 2);
        due("walk to a wire 3", x.walk(0, true, 2, 3), NONE);
        due("walk to a wire with no port", x.walk(0, true, 9, 0), NONE);
        due("cut", x.cut(2), true);
        due("walk to a cut wire", x.walk(0, true, 2, 0), NONE);
        due("walk to a cut wire of its own", x.walk(2, true, 2, 0), NONE);
    }

    private static void longestWalk() {
        WireWays x = row(10, 9, 9);
        for (int k = 0; k < 10; k++) {
            due("longest walk " + k, x.walk(9, false, 0, k), 9 - k);
        }
        due("longest walk 10", x.walk(9, false, 0, 10), NONE);
        due("plug a wire at the end", x.plug(0, 0, 15, 1), true);
        due("longest walk to a wire", x.walk(9, true, 15, 9), 0);
        due("behind it", x.walk(9, true, 15, 10), NONE);
    }

    // Promise 11
    private static void reach() {
        WireWays x = row(10, 1, 9);
        due("reach the whole row", x.reach(0), 10);
        due("reach the whole row from the middle", x.reach(5), 10);
        due("cut", x.cut(3), true);
        due("reach below the cut", x.reach(0), 4);
        due("reach above the cut", x.reach(4), 6);
        due("draw", x.draw(9, 0), true);
        due("reach of one alone", x.reach(9), 1);
        due("reach of the others", x.reach(8), 5);
        due("reach 10 of 10", x.reach(10), NONE);
        for (int bad : EXTREMES) {
            due("reach " + bad, x.reach(bad), NONE);
        }
        due("reach 2 of 2", new WireWays(2).reach(2), NONE);
    }

    // Promise 12
    private static void counts() {
        WireWays x = row(5, 2, 3);
        due("count(0)", x.count(0), 5);
        due("count(1)", x.count(1), 8);
        due("count(2)", x.count(2), 0);
        due("count(3)", x.count(3), 12);
        due("cut", x.cut(0), true);
        due("count(1) counts ports on cut wires", x.count(1), 8);
        due("count(2)", x.count(2), 1);
        due("count(3) passes over what can't be come to", x.count(3), 9);
        for (int wire = 1; wire < 16; wire++) {
            due("cut", x.cut(wire), true);
        }
        due("count(2), all", x.count(2), 16);
        due("count(3), all cut", x.count(3), 0);
        due("count(4)", x.count(4), NONE);
        for (int bad : EXTREMES) {
            due("count(" + bad + ")", x.count(bad), NONE);
        }
        due("count(3), the greatest that can be", row(10, 9, 9).count(3), 81);

        WireWays full = new WireWays(10);
        for (int r = 0; r < 10; r++) {
            for (int p = 0; p < 4; p++) {
                due("plug all", full.plug(r, p, p * 4 + r % 4, 1 + p), true);
            }
        }
        due("count(1), all", full.count(1), 40);
    }

    private static void refusedCallsChangeNothing() {
        WireWays x = row(3, 2, 2);
        x.plug(0, 1, 5, 9);
        x.plug(0, 2, 0, 9);
        x.plug(0, 0, 5, 10);
        x.plug(0, 0, 16, 1);
        x.draw(0, 0);
        x.draw(3, 0);
        x.cost(0, 1, 10);
        x.cost(0, 1, 0);
        x.cost(0, 0, 1);
        x.cut(16);
        x.mend(0);
        due("count(1) after refused calls", x.count(1), 4);
        due("count(2) after refused calls", x.count(2), 0);
        due("far after refused calls", x.far(0, false, 2), 4);
        due("cost after refused calls", x.cost(0, 1, 2), 2);
        due("wire 5 has no port after refused calls", x.far(0, true, 5), NONE);
    }

    private static void objectsAreApart() {
        WireWays one = row(3, 1, 1);
        WireWays other = new WireWays(3);
        due("cut in the other", other.cut(0), true);
        due("far in the one", one.far(0, false, 2), 2);
        due("far in the other", other.far(0, false, 2), NONE);
        due("count(2) in the one", one.count(2), 0);
    }

    private static void allCallsOfOneObject() {
        WireWays x = new WireWays(2);
        x.plug(0, 0, 0, 1);
        x.plug(1, 0, 0, 1);
        for (int call = 2; call < 512; call += 3) {
            due("cut, of 512", x.cut(0), true);
            due("mend, of 512", x.mend(0), true);
            due("far, of 512", x.far(0, false, 1), 1);
        }
    }
}
