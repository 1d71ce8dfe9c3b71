import java.util.ArrayList;
import java.util.List;
import java.util.function.Function;

// For each sentence of the document that names a boundary case, a test of its own, told by that sentence.
public final class BoundariesTest {
    private static final int NONE = WireWays.NONE;
    private static final int PORTS = 4;
    private static final int WIRES = 16;

    private static String sentence = "";
    private static int tests = 0;
    private static int wrong = 0;

    private static void due(String call, int got, int want) {
        if (got != want) {
            wrong++;
            System.out.println(sentence + " -- " + call + " answered " + got + ", due is " + want);
        }
    }

    private static void due(String call, boolean got, boolean want) {
        due(call, got ? 1 : 0, want ? 1 : 0);
    }

    private static void test(String words, Runnable body) {
        sentence = words;
        tests++;
        try {
            body.run();
        } catch (RuntimeException thrown) {
            wrong++;
            System.out.println(sentence + " -- threw " + thrown);
        }
    }

    public static void main(String[] args) {
        terms();
        newObject();
        plug();
        draw();
        cost();
        cutAndMend();
        far();
        portAndNext();
        walk();
        reach();
        count();
        System.out.println(wrong == 0 ? tests + " sentences hold" : wrong + " answers are not as due");
        if (wrong != 0) {
            System.exit(1);
        }
    }

    private static void terms() {
        test("An object is used for at most 512 calls", BoundariesTest::theLastOf512Calls);
        test("each with PORTS 0 .. 3", BoundariesTest::portsOfARouter);
        test("WIRES 0 .. 15", BoundariesTest::allWires);
        test("WIRES ..., UP at first", BoundariesTest::wiresAreUpAtFirst);
        test("with a COST 1 .. 9", BoundariesTest::allCosts);
        test("a ROUTER has one PORT on a WIRE at most", BoundariesTest::onePortOnAWire);
        test("AIMS are ROUTERS and WIRES", BoundariesTest::aimsOfOneNumber);
        test("the least sum of COSTS of PORTS by which one goes", BoundariesTest::costsOfThePortsGoneBy);
        test("over WIRES that are UP", BoundariesTest::notOverCutWires);
        test("or to one with a PORT on the WIRE that is", BoundariesTest::theNearestOnTheWire);
        test("0 if that is the ROUTER itself", BoundariesTest::noneToGo);
        test("There is none to a WIRE that is CUT", BoundariesTest::noDistanceToACutWire);
        test("nor where one can't come", BoundariesTest::noDistanceWhereOneCantCome);
        test("to a WIRE that is UP, on which it has a PORT: that PORT", BoundariesTest::directByItsPort);
        test("no ROUTER (it is DIRECT)", BoundariesTest::directWithoutARouter);
        test("a PORT, on a WIRE that is UP", BoundariesTest::noWayByACutWire);
        test("and another ROUTER with a PORT on that WIRE", BoundariesTest::noWayByAWireOfItsOwn);
        test("from which there is a DISTANCE to the AIM", BoundariesTest::noWayByADeadEnd);
        test("the one of the least sum", BoundariesTest::leastSumFirst);
        test("then of the least PORT", BoundariesTest::thenLeastPort);
        test("then of the least ROUTER", BoundariesTest::thenLeastRouter);
        test("None from a ROUTER to itself", BoundariesTest::noWayToItself);
        test("(None) where there is no DISTANCE", BoundariesTest::noWayWithoutADistance);
        test("All memory is the class's own", BoundariesTest::objectsAreApart);
        test("A call that is refused changes nothing", BoundariesTest::refusedCallsChangeNothing);
        test("NONE = -1", () -> due("NONE", WireWays.NONE, -1));
    }

    private static void newObject() {
        test("1: So many ROUTERS, 1 .. 10", BoundariesTest::soManyRouters);
        test("1: others count as the nearest, too few", BoundariesTest::tooFewRouters);
        test("1: others count as the nearest, too many", BoundariesTest::tooManyRouters);
        test("1: No PORT is on a WIRE", BoundariesTest::noPortIsOnAWire);
    }

    private static void plug() {
        test("2: is put on a WIRE, with a COST: true, all ports", BoundariesTest::plugAllPorts);
        test("2: is put on a WIRE: true, all routers on one", BoundariesTest::plugAllRoutersOnOneWire);
        test("2: is put on a WIRE: true, a CUT one", BoundariesTest::plugOnACutWire);
        test("2: false if there is none such, ROUTER", BoundariesTest::plugNoSuchRouter);
        test("2: false if there is none such, PORT", BoundariesTest::plugNoSuchPort);
        test("2: false if there is none such, WIRE", BoundariesTest::plugNoSuchWire);
        test("2: false if there is none such, COST", BoundariesTest::plugNoSuchCost);
        test("2: false if the PORT is on one", BoundariesTest::plugAPortThatIsOnOne);
        test("2: false if the ROUTER has another one there", BoundariesTest::plugWhereTheRouterIs);
    }

    private static void draw() {
        test("3: is drawn out of its WIRE: true", BoundariesTest::drawAllPorts);
        test("3: false if there is none such", BoundariesTest::drawNoneSuch);
        test("3: false if it is on none", BoundariesTest::drawAPortThatIsOnNone);
    }

    private static void cost() {
        test("4: is another one: what it was", BoundariesTest::costAnotherOne);
        test("4: (or the same)", BoundariesTest::costTheSame);
        test("4: NONE if there is none such", BoundariesTest::costNoneSuch);
        test("4: NONE if it is on no WIRE", BoundariesTest::costOnNoWire);
        test("4: NONE if no such COST", BoundariesTest::costNoSuchCost);
    }

    private static void cutAndMend() {
        test("5: A WIRE is CUT: true", BoundariesTest::cutAllWires);
        test("5: false if there is none such", BoundariesTest::cutNoneSuch);
        test("5: false if it is", BoundariesTest::cutWhatIsCut);
        test("6: A WIRE is UP again: true", BoundariesTest::mendAllWires);
        test("6: false if there is none such", BoundariesTest::mendNoneSuch);
        test("6: false if it is", BoundariesTest::mendWhatIsUp);
    }

    private static void far() {
        test("7: from ROUTER r to ROUTER t (over false)", BoundariesTest::farToTheLastRouter);
        test("7: or to WIRE t (true)", BoundariesTest::farToTheLastWire);
        test("7: NONE without one, can't come", BoundariesTest::farWhereOneCantCome);
        test("7: NONE without one, none such", () -> noneForNoneSuch("far", WireWays::far));
    }

    private static void portAndNext() {
        test("8: The PORT of the WAY", BoundariesTest::portLeastAndGreatest);
        test("8: NONE without one", BoundariesTest::portWithoutAWay);
        test("8: NONE without one, none such", () -> noneForNoneSuch("port", WireWays::port));
        test("9: The ROUTER of the WAY", BoundariesTest::nextLeastAndGreatest);
        test("9: NONE without one", BoundariesTest::nextWithoutAWay);
        test("9: NONE without one, none such", () -> noneForNoneSuch("next", WireWays::next));
        test("9: NONE if it is DIRECT", BoundariesTest::nextIfDirect);
    }

    private static void walk() {
        test("10: from 0 (r itself) on", BoundariesTest::walkBeginsWithR);
        test("10: ROUTER k of the WALK, the longest", BoundariesTest::walkTheLongest);
        test("10: NONE behind its end", BoundariesTest::walkBehindItsEnd);
        test("10: NONE without a DISTANCE", BoundariesTest::walkWithoutADistance);
        test("10: NONE without a DISTANCE, none such",
            () -> noneForNoneSuch("walk", (x, r, over, t) -> x.walk(r, over, t, 0)));
        test("10: NONE for k below 0", BoundariesTest::walkBelow0);
    }

    private static void reach() {
        test("11: How many ROUTERS one can come to from r", BoundariesTest::reachAll);
        test("11: (itself, too)", BoundariesTest::reachItself);
        test("11: NONE if there is none such", BoundariesTest::reachNoneSuch);
    }

    private static void count() {
        test("12: What 0: ROUTERS", BoundariesTest::countRouters);
        test("12: 1: PORTS on WIRES", BoundariesTest::countPorts);
        test("12: 2: WIRES that are CUT", BoundariesTest::countCutWires);
        test("12: 3: the greatest DISTANCE", BoundariesTest::countGreatestDistance);
        test("12: 0 if there is none above", BoundariesTest::countNoneAbove);
        test("12: NONE for another what", BoundariesTest::countAnotherWhat);
    }

    // Numbers outside low .. high: next to it, those that would come back in if cut to fewer bits, and the extremes.
    private static List<Integer> outside(int low, int high) {
        int[] steps = {0, 1, 3, 9, 15, 16, 255, 65535, (1 << 30) - 1, 1 << 30};
        List<Integer> all = new ArrayList<>(List.of(Integer.MIN_VALUE, Integer.MIN_VALUE + low, Integer.MAX_VALUE,
            256 + low, 65536 + low, (1 << 30) + low, low - 256, low - 65536, low - (1 << 30)));
        for (int step : steps) {
            all.add(low - 1 - step);
            all.add(high + 1 + step);
        }
        all.removeIf(number -> number >= low && number <= high);
        return all;
    }

    // Routers 0 - 1 - 2 - .. in a row: wire i joins i (by its port 1) and i + 1 (by its port 0).
    private static WireWays row(int routers, int costUp, int costDown) {
        WireWays x = new WireWays(routers);
        for (int i = 0; i + 1 < routers; i++) {
            x.plug(i, 1, i, costUp);
            x.plug(i + 1, 0, i, costDown);
        }
        return x;
    }

    // Each port of each of ten routers is on a wire; the cost of port p is p + 1.
    private static WireWays full() {
        WireWays x = new WireWays(10);
        for (int r = 0; r < 10; r++) {
            for (int p = 0; p < PORTS; p++) {
                due("full: plug", x.plug(r, p, fullWire(r, p), p + 1), true);
            }
        }
        return x;
    }

    private static int fullWire(int r, int p) {
        return p * 4 + r % 4;
    }

    private static WireWays allOnOneWire(int wire) {
        WireWays x = new WireWays(10);
        for (int r = 0; r < 10; r++) {
            due("plug router " + r, x.plug(r, r % PORTS, wire, 1 + r % 9), true);
        }
        return x;
    }

    private static void dueWay(String text, WireWays x, int r, boolean over, int t, int port, int next) {
        due(text + ": port", x.port(r, over, t), port);
        due(text + ": next", x.next(r, over, t), next);
    }

    // ---- What it is, and Terms

    private static void theLastOf512Calls() {
        WireWays x = row(10, 9, 9);
        int calls = 18;
        while (calls + 7 <= 511) {
            due("cut", x.cut(4), true);
            due("far, cut", x.far(0, false, 9), NONE);
            due("mend", x.mend(4), true);
            due("draw", x.draw(9, 0), true);
            due("plug", x.plug(9, 0, 8, 9), true);
            due("cost", x.cost(0, 1, 9), 9);
            due("count(3)", x.count(3), 81);
            calls += 7;
        }
        while (calls < 511) {
            due("plug, refused", x.plug(0, 1, 0, 1), false);
            calls++;
        }
        due("call 512", x.walk(9, false, 0, 9), 0);
    }

    private static void portsOfARouter() {
        for (int p = 0; p < PORTS; p++) {
            WireWays x = new WireWays(1);
            due("plug port " + p, x.plug(0, p, 5, 1), true);
            due("port", x.port(0, true, 5), p);
            due("cost of port " + p, x.cost(0, p, 2), 1);
            due("draw port " + p, x.draw(0, p), true);
        }
        WireWays x = full();
        due("draw port 4 of router 0, where router 1 has a port 0", x.draw(0, 4), false);
        due("draw port -1 of router 1, where router 0 has a port 3", x.draw(1, -1), false);
        due("count(1)", x.count(1), 40);
    }

    private static void allWires() {
        for (int wire = 0; wire < WIRES; wire++) {
            WireWays x = new WireWays(2);
            due("plug on wire " + wire, x.plug(0, 0, wire, 3), true);
            due("plug on wire " + wire, x.plug(1, 0, wire, 4), true);
            due("far over wire " + wire, x.far(0, false, 1), 3);
            due("far to wire " + wire, x.far(0, true, wire), 0);
            due("cut wire " + wire, x.cut(wire), true);
            due("far over cut wire " + wire, x.far(0, false, 1), NONE);
            due("mend wire " + wire, x.mend(wire), true);
            due("far over mended wire " + wire, x.far(0, false, 1), 3);
        }
        WireWays x = new WireWays(1);
        due("plug on wire 16", x.plug(0, 0, 16, 1), false);
        due("plug on wire -1", x.plug(0, 0, -1, 1), false);
        due("cut wire 16", x.cut(16), false);
        due("cut wire -1", x.cut(-1), false);
    }

    private static void wiresAreUpAtFirst() {
        WireWays x = new WireWays(1);
        due("count(2)", x.count(2), 0);
        for (int wire = 0; wire < WIRES; wire++) {
            due("mend wire " + wire, x.mend(wire), false);
            due("cut wire " + wire, x.cut(wire), true);
        }
    }

    private static void allCosts() {
        for (int cost = 1; cost <= 9; cost++) {
            WireWays x = new WireWays(2);
            due("plug with cost " + cost, x.plug(0, 0, 0, cost), true);
            x.plug(1, 0, 0, 5);
            due("far by cost " + cost, x.far(0, false, 1), cost);
            due("cost " + cost + " again", x.cost(0, 0, cost), cost);
            due("the other's cost " + cost, x.cost(1, 0, cost), 5);
            due("far back by cost " + cost, x.far(1, false, 0), cost);
        }
        WireWays x = new WireWays(1);
        due("plug with cost 0", x.plug(0, 0, 0, 0), false);
        due("plug with cost 10", x.plug(0, 0, 0, 10), false);
    }

    private static void onePortOnAWire() {
        WireWays x = new WireWays(2);
        due("plug", x.plug(0, 2, 6, 9), true);
        due("plug a second one, cheaper", x.plug(0, 1, 6, 1), false);
        due("plug one of another router", x.plug(1, 1, 6, 1), true);
        due("far by the first", x.far(0, false, 1), 9);
        due("count(1)", x.count(1), 2);
    }

    private static void aimsOfOneNumber() {
        WireWays x = row(3, 2, 3);
        due("far to router 0", x.far(2, false, 0), 6);
        due("far to wire 0", x.far(2, true, 0), 3);
        due("far to router 1", x.far(1, false, 1), 0);
        due("far to router 2", x.far(0, false, 2), 4);
        due("far to wire 2, with no port", x.far(0, true, 2), NONE);
    }

    private static void costsOfThePortsGoneBy() {
        WireWays x = row(3, 1, 9);
        due("far up by the costs of the ports up", x.far(0, false, 2), 2);
        due("far down by the costs of the ports down", x.far(2, false, 0), 18);
        due("plug at once, as dear", x.plug(2, 3, 9, 9), true);
        due("plug its end", x.plug(0, 3, 9, 3), true);
        due("far down at once", x.far(2, false, 0), 9);
        due("far up in two steps still", x.far(0, false, 2), 2);
    }

    private static void notOverCutWires() {
        WireWays x = row(3, 1, 1);
        x.plug(0, 3, 9, 9);
        x.plug(2, 3, 9, 9);
        due("far", x.far(0, false, 2), 2);
        due("cut", x.cut(1), true);
        due("far round the cut wire", x.far(0, false, 2), 9);
        due("far to the other side of the cut", x.far(1, false, 2), 10);
        due("cut", x.cut(9), true);
        due("far with no wire left", x.far(0, false, 2), NONE);
        due("far on this side", x.far(0, false, 1), 1);
    }

    private static void theNearestOnTheWire() {
        WireWays x = row(4, 2, 5);
        x.plug(0, 2, 12, 9);
        x.plug(3, 2, 12, 9);
        due("far to a wire with ends on both sides, up", x.far(2, true, 12), 2);
        due("far to a wire with ends on both sides, down", x.far(1, true, 12), 4);
        due("cost", x.cost(2, 1, 9), 2);
        due("far down now", x.far(1, true, 12), 5);
    }

    private static void noneToGo() {
        WireWays x = new WireWays(2);
        due("far to itself, on no wire", x.far(1, false, 1), 0);
        x.plug(1, 0, 3, 9);
        due("far to itself, on one", x.far(1, false, 1), 0);
        due("far to a wire of its own, alone there", x.far(1, true, 3), 0);
        x.plug(0, 0, 3, 1);
        due("far to a wire of its own, shared", x.far(1, true, 3), 0);
        x.cut(3);
        due("far to itself, on a cut one", x.far(1, false, 1), 0);
    }

    private static void noDistanceToACutWire() {
        WireWays x = row(3, 1, 1);
        due("far before", x.far(0, true, 1), 1);
        due("far of its own before", x.far(1, true, 1), 0);
        due("cut", x.cut(1), true);
        due("far", x.far(0, true, 1), NONE);
        due("far of its own", x.far(1, true, 1), NONE);
        due("far of its own, from the other side", x.far(2, true, 1), NONE);
        due("mend", x.mend(1), true);
        due("far after", x.far(0, true, 1), 1);
    }

    private static void noDistanceWhereOneCantCome() {
        WireWays x = new WireWays(3);
        due("far with no ports", x.far(0, false, 1), NONE);
        due("far to a wire with no port", x.far(0, true, 0), NONE);
        x.plug(0, 0, 0, 1);
        due("far with a port of its own alone", x.far(0, false, 1), NONE);
        due("far back", x.far(1, false, 0), NONE);
        due("far to the wire of the other", x.far(1, true, 0), NONE);
        x.plug(1, 0, 1, 1);
        due("far on two wires apart", x.far(0, false, 1), NONE);
        x.plug(1, 1, 0, 1);
        due("far on one wire", x.far(0, false, 1), 1);
        due("far to the third", x.far(0, false, 2), NONE);
    }

    private static void directByItsPort() {
        // Router 1 is on the wire too, and cheaply come to by a lesser port.
        WireWays x = new WireWays(2);
        x.plug(0, 0, 1, 1);
        x.plug(1, 0, 1, 1);
        x.plug(1, 1, 8, 1);
        due("port before", x.port(0, true, 8), 0);
        x.plug(0, 3, 8, 9);
        due("port, direct", x.port(0, true, 8), 3);
        due("port, direct, of the other", x.port(1, true, 8), 1);
        due("port, direct, to wire 1", x.port(0, true, 1), 0);
        due("cut", x.cut(8), true);
        due("port, its own wire is cut", x.port(0, true, 8), NONE);
    }

    private static void directWithoutARouter() {
        WireWays x = allOnOneWire(7);
        for (int r = 0; r < 10; r++) {
            dueWay("direct", x, r, true, 7, r % PORTS, NONE);
            due("walk has r alone", x.walk(r, true, 7, 1), NONE);
        }
    }

    private static void noWayByACutWire() {
        WireWays x = new WireWays(2);
        x.plug(0, 0, 0, 1);
        x.plug(1, 0, 0, 1);
        x.plug(0, 1, 1, 9);
        x.plug(1, 1, 1, 9);
        dueWay("before", x, 0, false, 1, 0, 1);
        due("cut", x.cut(0), true);
        dueWay("by the other wire", x, 0, false, 1, 1, 1);
        due("mend", x.mend(0), true);
        dueWay("after", x, 0, false, 1, 0, 1);
    }

    private static void noWayByAWireOfItsOwn() {
        // By port 0 there is none but router 0 itself.
        WireWays x = new WireWays(2);
        x.plug(0, 0, 0, 1);
        x.plug(0, 1, 1, 9);
        x.plug(1, 1, 1, 9);
        dueWay("not by the wire of its own", x, 0, false, 1, 1, 1);
        x.draw(0, 1);
        dueWay("none left", x, 0, false, 1, NONE, NONE);
    }

    private static void noWayByADeadEnd() {
        // From 0 the cheap port 0 leads to router 1 alone, and from there one comes to 3 only back over 0.
        WireWays x = new WireWays(4);
        x.plug(0, 0, 0, 1);
        x.plug(1, 0, 0, 1);
        dueWay("from 1 one can't come to 3", x, 0, false, 3, NONE, NONE);
        x.plug(0, 1, 1, 9);
        x.plug(2, 0, 1, 9);
        x.plug(2, 1, 2, 9);
        x.plug(3, 0, 2, 9);
        dueWay("not by the dead end", x, 0, false, 3, 1, 2);
        dueWay("out of the dead end", x, 1, false, 3, 0, 0);
    }

    private static void leastSumFirst() {
        // To router 3 by port 0 (cost 5) at once, or by port 3 (cost 1) over router 1 or 2.
        WireWays x = new WireWays(4);
        x.plug(0, 0, 0, 5);
        x.plug(3, 0, 0, 9);
        x.plug(0, 3, 1, 1);
        x.plug(1, 0, 1, 9);
        x.plug(2, 0, 1, 9);
        x.plug(1, 1, 2, 4);
        x.plug(2, 1, 2, 3);
        x.plug(3, 1, 2, 9);
        dueWay("4 before 5, by the greatest port and the greater router", x, 0, false, 3, 3, 2);
        due("cost", x.cost(0, 0, 3), 5);
        dueWay("3 before 4", x, 0, false, 3, 0, 3);
    }

    private static void thenLeastPort() {
        // Sums alike by ports 1 and 2; the lesser port leads to the greater router.
        WireWays x = new WireWays(4);
        x.plug(0, 2, 0, 3);
        x.plug(1, 0, 0, 9);
        x.plug(0, 1, 1, 3);
        x.plug(2, 0, 1, 9);
        x.plug(1, 1, 2, 3);
        x.plug(2, 1, 2, 3);
        x.plug(3, 0, 2, 9);
        dueWay("the lesser port", x, 0, false, 3, 1, 2);
        due("draw", x.draw(0, 1), true);
        due("plug as the greatest port", x.plug(0, 3, 1, 3), true);
        dueWay("the lesser port is the other now", x, 0, false, 3, 2, 1);
        due("draw", x.draw(0, 3), true);
        due("plug as port 0, the cost and the way of it apart", x.plug(0, 0, 1, 4), true);
        due("cost", x.cost(2, 1, 2), 3);
        dueWay("the sum is one of both", x, 0, false, 3, 0, 2);
    }

    private static void thenLeastRouter() {
        // By one port over routers 1 to 8, all of one distance to 9; put there from the greatest on.
        WireWays x = new WireWays(10);
        x.plug(0, 2, 0, 1);
        x.plug(9, 0, 1, 1);
        for (int r = 8; r >= 1; r--) {
            x.plug(r, r % 2, 0, 9);
            x.plug(r, 2 + r % 2, 1, 2);
        }
        for (int r = 1; r <= 8; r++) {
            dueWay("the least of those left", x, 0, false, 9, 2, r);
            x.draw(r, 2 + r % 2);
        }
    }

    private static void noWayToItself() {
        WireWays x = allOnOneWire(0);
        for (int r = 0; r < 10; r++) {
            dueWay("to itself", x, r, false, r, NONE, NONE);
        }
        due("walk to itself is r alone", x.walk(3, false, 3, 0), 3);
        due("walk to itself ends there", x.walk(3, false, 3, 1), NONE);
    }

    private static void noWayWithoutADistance() {
        WireWays x = row(4, 1, 1);
        dueWay("before", x, 0, false, 3, 1, 1);
        x.cut(2);
        dueWay("can't come", x, 0, false, 3, NONE, NONE);
        dueWay("to a cut wire", x, 0, true, 2, NONE, NONE);
        dueWay("to a cut wire of its own", x, 2, true, 2, NONE, NONE);
        dueWay("to a wire with no port", x, 0, true, 15, NONE, NONE);
    }

    private static void objectsAreApart() {
        WireWays one = row(3, 1, 1);
        WireWays other = row(3, 4, 4);
        other.cut(0);
        due("far in the one", one.far(0, false, 2), 2);
        due("far in the other", other.far(1, false, 2), 4);
        due("cut in the one, that is cut in the other", one.cut(0), true);
        due("mend in the other", other.mend(0), true);
        due("far in the other, mended", other.far(0, false, 2), 8);
        due("far in the one, cut", one.far(0, false, 2), NONE);
        due("draw in the other", other.draw(1, 1), true);
        due("ports of the one", one.count(1), 4);
        due("routers of a third", new WireWays(9).count(0), 9);
        due("routers of the one when a third is made", one.count(0), 3);
        due("ports of the one when a third is made", one.count(1), 4);
        due("wires of the one when a third is made", one.count(2), 1);
    }

    private static WireWays someState() {
        WireWays x = row(3, 2, 3);
        x.plug(2, 3, 15, 9);
        x.plug(0, 2, 15, 8);
        x.plug(1, 3, 6, 1);
        x.cut(15);
        x.cut(8);
        return x;
    }

    // All that an object answers, within its 512 calls: first what it is asked, then what the changes answer.
    private static String stateOf(WireWays x) {
        StringBuilder all = new StringBuilder();
        for (int what = 0; what <= 3; what++) {
            all.append(x.count(what)).append(' ');
        }
        for (int r = 0; r < 3; r++) {
            all.append(x.reach(r)).append(' ');
            for (int t = 0; t < 3; t++) {
                all.append(x.far(r, false, t)).append(x.port(r, false, t)).append(x.next(r, false, t)).append(' ');
            }
            for (int wire = 0; wire < WIRES; wire++) {
                all.append(x.far(r, true, wire)).append(x.port(r, true, wire)).append(' ');
            }
        }
        for (int wire = 0; wire < WIRES; wire++) {
            all.append(x.mend(wire)).append(' ');
            for (int r = 0; r < 3; r++) {
                all.append(x.far(r, true, wire)).append(x.port(r, true, wire)).append(' ');
            }
        }
        for (int r = 0; r < 3; r++) {
            for (int p = 0; p < PORTS; p++) {
                all.append(x.cost(r, p, 5)).append(x.draw(r, p)).append(' ');
            }
        }
        return all.toString();
    }

    private static void refused(String call, Function<WireWays, Object> made, Object refusal) {
        WireWays x = someState();
        Object answer = made.apply(x);
        due(call + " is refused", answer.equals(refusal), true);
        due(call + " leaves the state as it was", stateOf(x).equals(stateOf(someState())), true);
    }

    private static void refusedCallsChangeNothing() {
        for (int r : outside(0, 2)) {
            refused("plug router " + r, x -> x.plug(r, 3, 1, 9), false);
            refused("draw router " + r, x -> x.draw(r, 0), false);
            refused("cost router " + r, x -> x.cost(r, 0, 9), NONE);
            refused("far router " + r, x -> x.far(r, false, 1), NONE);
            refused("port router " + r, x -> x.port(r, false, 1), NONE);
            refused("next router " + r, x -> x.next(0, false, r), NONE);
            refused("walk router " + r, x -> x.walk(r, true, 1, 0), NONE);
            refused("reach router " + r, x -> x.reach(r), NONE);
        }
        for (int p : outside(0, 3)) {
            refused("plug port " + p, x -> x.plug(1, p, 9, 9), false);
            refused("draw port " + p, x -> x.draw(1, p), false);
            refused("cost port " + p, x -> x.cost(1, p, 9), NONE);
            refused("count " + p, x -> x.count(p), NONE);
        }
        for (int wire : outside(0, 15)) {
            refused("plug wire " + wire, x -> x.plug(0, 0, wire, 9), false);
            refused("cut wire " + wire, x -> x.cut(wire), false);
            refused("mend wire " + wire, x -> x.mend(wire), false);
            refused("far wire " + wire, x -> x.far(0, true, wire), NONE);
        }
        for (int cost : outside(1, 9)) {
            refused("plug cost " + cost, x -> x.plug(0, 0, 9, cost), false);
            refused("cost " + cost, x -> x.cost(0, 1, cost), NONE);
        }
        refused("plug a port that is on another", x -> x.plug(0, 1, 9, 9), false);
        refused("plug a port that is there, at another cost", x -> x.plug(0, 1, 0, 9), false);
        refused("plug a port that is on a cut one", x -> x.plug(2, 3, 9, 1), false);
        refused("plug where the router has another", x -> x.plug(0, 3, 0, 9), false);
        refused("plug where the router has another, cut", x -> x.plug(2, 1, 15, 1), false);
        refused("draw a port that is on none", x -> x.draw(0, 0), false);
        refused("cost of a port that is on none", x -> x.cost(0, 0, 9), NONE);
        refused("cut what is cut", x -> x.cut(15), false);
        refused("mend what is up", x -> x.mend(0), false);
        refused("walk below 0", x -> x.walk(0, false, 2, -1), NONE);
        refused("walk behind the end", x -> x.walk(0, false, 2, 3), NONE);
    }

    // ---- Promise 1

    private static void dueRouters(WireWays x, int routers) {
        due("count(0)", x.count(0), routers);
        due("reach of the last", x.reach(routers - 1), 1);
        due("reach behind the last", x.reach(routers), NONE);
        due("plug the last", x.plug(routers - 1, 3, 15, 9), true);
        due("plug behind the last", x.plug(routers, 0, 0, 1), false);
        due("far of the last", x.far(routers - 1, true, 15), 0);
        due("far behind the last", x.far(routers, false, routers), NONE);
    }

    private static void soManyRouters() {
        for (int routers = 1; routers <= 10; routers++) {
            dueRouters(new WireWays(routers), routers);
        }
    }

    private static void tooFewRouters() {
        for (int routers : new int[] {0, -1, -2, -10, -256, -65536, Integer.MIN_VALUE + 5, Integer.MIN_VALUE}) {
            dueRouters(new WireWays(routers), 1);
        }
    }

    private static void tooManyRouters() {
        for (int routers : new int[] {11, 12, 20, 256, 261, 65541, 1 << 30, Integer.MAX_VALUE - 1, Integer.MAX_VALUE}) {
            dueRouters(new WireWays(routers), 10);
        }
    }

    private static void noPortIsOnAWire() {
        WireWays x = new WireWays(10);
        due("count(1)", x.count(1), 0);
        for (int r = 0; r < 10; r++) {
            for (int p = 0; p < PORTS; p++) {
                due("draw", x.draw(r, p), false);
                due("cost", x.cost(r, p, 1), NONE);
            }
            for (int wire = 0; wire < WIRES; wire++) {
                due("far", x.far(r, true, wire), NONE);
            }
        }
    }

    // ---- Promise 2

    private static void plugAllPorts() {
        WireWays x = full();
        due("count(1)", x.count(1), 40);
        for (int r = 0; r < 10; r++) {
            for (int p = 0; p < PORTS; p++) {
                due("port to its wire", x.port(r, true, fullWire(r, p)), p);
                due("cost", x.cost(r, p, p + 1), p + 1);
            }
        }
    }

    private static void plugAllRoutersOnOneWire() {
        WireWays x = allOnOneWire(15);
        due("count(1)", x.count(1), 10);
        for (int r = 0; r < 10; r++) {
            due("reach", x.reach(r), 10);
            for (int t = 0; t < 10; t++) {
                due("far", x.far(r, false, t), r == t ? 0 : 1 + r % 9);
            }
        }
    }

    private static void plugOnACutWire() {
        WireWays x = new WireWays(2);
        x.cut(4);
        due("plug", x.plug(0, 0, 4, 2), true);
        due("plug", x.plug(1, 0, 4, 2), true);
        due("far while it is cut", x.far(0, false, 1), NONE);
        due("mend", x.mend(4), true);
        due("far when it is mended", x.far(0, false, 1), 2);
    }

    private static void plugNoSuchRouter() {
        WireWays x = new WireWays(4);
        for (int r : outside(0, 3)) {
            due("plug router " + r, x.plug(r, 0, 0, 1), false);
            due("plug router " + r, x.plug(r, 3, 15, 9), false);
        }
        due("count(1)", x.count(1), 0);
        due("plug router 0", x.plug(0, 0, 0, 1), true);
        due("plug router 3", x.plug(3, 0, 0, 1), true);
    }

    private static void plugNoSuchPort() {
        WireWays x = new WireWays(4);
        for (int p : outside(0, 3)) {
            for (int r = 0; r < 4; r++) {
                due("plug port " + p, x.plug(r, p, r, 1), false);
            }
        }
        due("count(1)", x.count(1), 0);
        due("plug port 0", x.plug(1, 0, 0, 1), true);
        due("plug port 3", x.plug(1, 3, 1, 1), true);
    }

    private static void plugNoSuchWire() {
        WireWays x = new WireWays(4);
        for (int wire : outside(0, 15)) {
            due("plug wire " + wire, x.plug(0, 0, wire, 1), false);
            due("far to wire " + wire, x.far(0, true, wire), NONE);
        }
        due("count(1)", x.count(1), 0);
        due("plug wire 0", x.plug(0, 0, 0, 1), true);
        due("plug wire 15", x.plug(0, 3, 15, 1), true);
    }

    private static void plugNoSuchCost() {
        WireWays x = new WireWays(4);
        for (int cost : outside(1, 9)) {
            due("plug cost " + cost, x.plug(0, 0, 0, cost), false);
        }
        due("count(1)", x.count(1), 0);
        due("plug cost 1", x.plug(0, 0, 0, 1), true);
        due("plug cost 9", x.plug(0, 1, 1, 9), true);
    }

    private static void plugAPortThatIsOnOne() {
        for (int p = 0; p < PORTS; p++) {
            WireWays x = new WireWays(1);
            due("plug", x.plug(0, p, 3, 4), true);
            for (int wire = 0; wire < WIRES; wire++) {
                due("plug again", x.plug(0, p, wire, 5), false);
            }
            x.cut(3);
            due("plug again when its wire is cut", x.plug(0, p, 9, 5), false);
            due("draw", x.draw(0, p), true);
            due("plug a drawn one", x.plug(0, p, 9, 5), true);
        }
    }

    private static void plugWhereTheRouterIs() {
        for (int p = 0; p < PORTS; p++) {
            for (int q = 0; q < PORTS; q++) {
                WireWays x = new WireWays(2);
                due("plug", x.plug(1, p, 0, 4), true);
                due("plug another there", x.plug(1, q, 0, 4), false);
                x.cut(0);
                due("plug another there, cut", x.plug(1, q, 0, 4), false);
                due("plug of another router there", x.plug(0, q, 0, 4), true);
                due("draw", x.draw(1, p), true);
                due("plug another there, when it is drawn", x.plug(1, q, 0, 4), true);
            }
        }
    }

    // ---- Promise 3

    private static void drawAllPorts() {
        WireWays x = full();
        int left = 40;
        for (int r = 9; r >= 0; r--) {
            for (int p = 0; p < PORTS; p++) {
                due("draw", x.draw(r, p), true);
                left--;
                due("count(1)", x.count(1), left);
                due("far to its wire afterwards, not of its own", x.far(r, true, fullWire(r, p)) == 0, false);
            }
        }
        due("plug the first again", x.plug(0, 0, 0, 1), true);
        x.cut(0);
        due("draw from a cut wire", x.draw(0, 0), true);
        x.mend(0);
        due("far when that is mended", x.far(0, true, 0), NONE);
    }

    private static void drawNoneSuch() {
        WireWays x = full();
        for (int bad : outside(0, 9)) {
            due("draw router " + bad, x.draw(bad, 0), false);
            due("draw router " + bad, x.draw(bad, 3), false);
        }
        for (int bad : outside(0, 3)) {
            due("draw port " + bad, x.draw(0, bad), false);
            due("draw port " + bad, x.draw(5, bad), false);
            due("draw port " + bad, x.draw(9, bad), false);
        }
        due("count(1)", x.count(1), 40);
    }

    private static void drawAPortThatIsOnNone() {
        WireWays x = new WireWays(2);
        due("draw from a new one", x.draw(0, 0), false);
        x.plug(0, 1, 0, 1);
        x.plug(1, 0, 0, 1);
        due("draw another port", x.draw(0, 0), false);
        due("draw another port", x.draw(1, 1), false);
        due("draw", x.draw(0, 1), true);
        due("draw again", x.draw(0, 1), false);
        due("count(1)", x.count(1), 1);
    }

    // ---- Promise 4

    private static void costAnotherOne() {
        WireWays x = row(2, 1, 5);
        due("cost from 1 to 9", x.cost(0, 1, 9), 1);
        due("far", x.far(0, false, 1), 9);
        due("cost from 9 to 1", x.cost(0, 1, 1), 9);
        due("far", x.far(0, false, 1), 1);
        due("far back", x.far(1, false, 0), 5);
        x.cut(0);
        due("cost while its wire is cut", x.cost(0, 1, 4), 1);
        x.mend(0);
        due("far when it is mended", x.far(0, false, 1), 4);
        due("draw", x.draw(0, 1), true);
        due("plug with another cost", x.plug(0, 1, 0, 7), true);
        due("cost is that of the last plug", x.cost(0, 1, 2), 7);
    }

    private static void costTheSame() {
        for (int cost = 1; cost <= 9; cost++) {
            WireWays x = row(2, cost, 5);
            due("the same cost " + cost, x.cost(0, 1, cost), cost);
            due("the same cost again " + cost, x.cost(0, 1, cost), cost);
            due("far", x.far(0, false, 1), cost);
        }
    }

    private static void costNoneSuch() {
        WireWays x = full();
        for (int bad : outside(0, 9)) {
            due("cost router " + bad, x.cost(bad, 0, 9), NONE);
            due("cost router " + bad, x.cost(bad, 3, 9), NONE);
        }
        for (int bad : outside(0, 3)) {
            due("cost port " + bad, x.cost(0, bad, 9), NONE);
            due("cost port " + bad, x.cost(5, bad, 9), NONE);
            due("cost port " + bad, x.cost(9, bad, 9), NONE);
        }
        for (int r = 0; r < 10; r++) {
            for (int p = 0; p < PORTS; p++) {
                due("cost as it was", x.cost(r, p, 9), p + 1);
            }
        }
    }

    private static void costOnNoWire() {
        WireWays x = new WireWays(2);
        due("cost in a new one", x.cost(0, 0, 1), NONE);
        x.plug(0, 0, 0, 6);
        due("cost of another port", x.cost(0, 1, 1), NONE);
        due("draw", x.draw(0, 0), true);
        due("cost of a drawn one", x.cost(0, 0, 6), NONE);
        due("count(1)", x.count(1), 0);
    }

    private static void costNoSuchCost() {
        WireWays x = row(2, 4, 5);
        for (int bad : outside(1, 9)) {
            due("cost " + bad, x.cost(0, 1, bad), NONE);
        }
        due("far", x.far(0, false, 1), 4);
        due("cost as it was", x.cost(0, 1, 1), 4);
    }

    // ---- Promises 5 and 6

    private static void cutAllWires() {
        WireWays x = full();
        for (int wire = 0; wire < WIRES; wire++) {
            due("cut wire " + wire, x.cut(wire), true);
            due("count(2)", x.count(2), wire + 1);
            due("far to it", x.far(wire % 4, true, wire), NONE);
        }
        due("ports stay on cut wires", x.count(1), 40);
        for (int r = 0; r < 10; r++) {
            due("reach", x.reach(r), 1);
        }
    }

    private static void cutNoneSuch() {
        WireWays x = new WireWays(10);
        for (int bad : outside(0, 15)) {
            due("cut " + bad, x.cut(bad), false);
        }
        due("count(2)", x.count(2), 0);
    }

    private static void cutWhatIsCut() {
        WireWays x = new WireWays(10);
        for (int wire = 0; wire < WIRES; wire++) {
            due("cut", x.cut(wire), true);
            due("cut again", x.cut(wire), false);
            due("count(2)", x.count(2), wire + 1);
        }
        due("mend", x.mend(15), true);
        due("cut when it is mended", x.cut(15), true);
    }

    private static void mendAllWires() {
        WireWays x = full();
        for (int wire = 0; wire < WIRES; wire++) {
            x.cut(wire);
        }
        for (int wire = 0; wire < WIRES; wire++) {
            due("mend wire " + wire, x.mend(wire), true);
            due("count(2)", x.count(2), WIRES - 1 - wire);
            due("far to it", x.far(wire % 4, true, wire), 0);
        }
    }

    private static void mendNoneSuch() {
        WireWays x = new WireWays(10);
        for (int wire = 0; wire < WIRES; wire++) {
            x.cut(wire);
        }
        for (int bad : outside(0, 15)) {
            due("mend " + bad, x.mend(bad), false);
        }
        due("count(2)", x.count(2), 16);
    }

    private static void mendWhatIsUp() {
        WireWays x = new WireWays(10);
        for (int wire = 0; wire < WIRES; wire++) {
            due("mend what is up at first", x.mend(wire), false);
            due("cut", x.cut(wire), true);
            due("mend", x.mend(wire), true);
            due("mend again", x.mend(wire), false);
        }
        due("count(2)", x.count(2), 0);
    }

    // ---- Promise 7

    private static void farToTheLastRouter() {
        WireWays x = row(10, 9, 1);
        due("far up the row", x.far(0, false, 9), 81);
        due("far down the row", x.far(9, false, 0), 9);
        for (int t = 10; t < WIRES; t++) {
            x.plug(0, 3, t, 1);
            due("far to what is a wire, and no router", x.far(0, false, t), NONE);
            due("far to it as a wire", x.far(0, true, t), 0);
            x.draw(0, 3);
        }
    }

    private static void farToTheLastWire() {
        WireWays x = row(10, 9, 1);
        x.plug(9, 3, 15, 9);
        due("far up the row", x.far(0, true, 15), 81);
        due("far of its own", x.far(9, true, 15), 0);
        x.plug(0, 3, 14, 9);
        due("far down the row", x.far(9, true, 14), 9);
        due("far to wire 0, down the row", x.far(9, true, 0), 8);
    }

    private static void farWhereOneCantCome() {
        WireWays x = row(10, 1, 1);
        x.draw(5, 0);
        for (int r = 0; r < 5; r++) {
            for (int t = 5; t < 10; t++) {
                due("far up", x.far(r, false, t), NONE);
                due("far down", x.far(t, false, r), NONE);
            }
        }
        due("far to a wire on the other side", x.far(0, true, 5), NONE);
        due("far to the wire that 4 alone is on", x.far(0, true, 4), 4);
        due("far to it from the other side", x.far(5, true, 4), NONE);
    }

    private interface Ask {
        int of(WireWays x, int r, boolean over, int t);
    }

    private static void noneForNoneSuch(String call, Ask ask) {
        // After a call that has an answer, so that one left over from it would be seen.
        WireWays x = row(4, 1, 1);
        for (int bad : outside(0, 3)) {
            ask.of(x, 0, false, 3);
            due(call + " from router " + bad, ask.of(x, bad, false, 3), NONE);
            due(call + " to router " + bad, ask.of(x, 0, false, bad), NONE);
            due(call + " from and to router " + bad, ask.of(x, bad, false, bad), NONE);
            due(call + " from router " + bad + " to a wire", ask.of(x, bad, true, 2), NONE);
        }
        x = row(4, 1, 1);
        for (int bad : outside(0, 15)) {
            ask.of(x, 0, true, 2);
            due(call + " to wire " + bad, ask.of(x, 0, true, bad), NONE);
            due(call + " to wire " + bad, ask.of(x, 3, true, bad), NONE);
        }
    }

    // ---- Promises 8 and 9

    private static void portLeastAndGreatest() {
        WireWays x = new WireWays(2);
        x.plug(0, 0, 0, 1);
        x.plug(1, 3, 0, 1);
        due("port 0", x.port(0, false, 1), 0);
        due("port 3", x.port(1, false, 0), 3);
        due("port 0, direct", x.port(0, true, 0), 0);
        due("port 3, direct", x.port(1, true, 0), 3);
    }

    private static void portWithoutAWay() {
        WireWays x = row(3, 1, 1);
        due("port", x.port(0, false, 2), 1);
        due("port to itself", x.port(0, false, 0), NONE);
        due("port to a wire with no port", x.port(0, true, 15), NONE);
        x.cut(1);
        due("port where one can't come", x.port(0, false, 2), NONE);
        due("port to a cut wire", x.port(0, true, 1), NONE);
        due("port to a cut wire of its own", x.port(1, true, 1), NONE);
    }

    private static void nextLeastAndGreatest() {
        WireWays x = row(10, 1, 1);
        due("next 9", x.next(8, false, 9), 9);
        due("next 0", x.next(1, false, 0), 0);
        due("next on the way up", x.next(0, false, 9), 1);
        due("next on the way down", x.next(9, false, 0), 8);
        x.plug(0, 3, 15, 1);
        due("next 0, to a wire", x.next(1, true, 15), 0);
    }

    private static void nextWithoutAWay() {
        WireWays x = row(3, 1, 1);
        due("next", x.next(0, false, 2), 1);
        due("next to itself", x.next(0, false, 0), NONE);
        due("next to a wire with no port", x.next(0, true, 15), NONE);
        x.cut(1);
        due("next where one can't come", x.next(0, false, 2), NONE);
        due("next to a cut wire", x.next(0, true, 1), NONE);
        due("next to a cut wire of its own", x.next(1, true, 1), NONE);
    }

    private static void nextIfDirect() {
        WireWays x = row(3, 1, 1);
        due("next", x.next(0, true, 1), 1);
        due("next, direct, shared with 0", x.next(1, true, 0), NONE);
        due("next, direct, shared with 2", x.next(1, true, 1), NONE);
        x.plug(1, 3, 9, 9);
        due("next, direct, alone there", x.next(1, true, 9), NONE);
    }

    // ---- Promise 10

    private static void walkBeginsWithR() {
        WireWays x = row(10, 1, 1);
        for (int r = 0; r < 10; r++) {
            due("walk 0 up", x.walk(r, false, 9, 0), r);
            due("walk 0 down", x.walk(r, false, 0, 0), r);
            due("walk 0 to itself", x.walk(r, false, r, 0), r);
            due("walk 0 to a wire", x.walk(r, true, 4, 0), r);
        }
    }

    private static void walkTheLongest() {
        WireWays x = row(10, 9, 9);
        x.plug(9, 3, 15, 9);
        for (int k = 0; k < 10; k++) {
            due("walk up", x.walk(0, false, 9, k), k);
            due("walk down", x.walk(9, false, 0, k), 9 - k);
            due("walk to a wire", x.walk(0, true, 15, k), k);
        }
        WireWays least = new WireWays(1);
        due("walk of the only router", least.walk(0, false, 0, 0), 0);
        due("walk of the only router 1", least.walk(0, false, 0, 1), NONE);
    }

    private static void walkBehindItsEnd() {
        WireWays x = row(10, 1, 1);
        for (int t = 0; t < 10; t++) {
            due("the end", x.walk(0, false, t, t), t);
            due("behind the end", x.walk(0, false, t, t + 1), NONE);
            due("two behind the end", x.walk(0, false, t, t + 2), NONE);
            due("far behind the end", x.walk(0, false, t, t + 65536), NONE);
            due("farthest behind the end", x.walk(0, false, t, Integer.MAX_VALUE), NONE);
        }
        for (int wire = 0; wire < 9; wire++) {
            due("the end at a wire", x.walk(0, true, wire, wire), wire);
            due("behind the end at a wire", x.walk(0, true, wire, wire + 1), NONE);
        }
    }

    private static void walkWithoutADistance() {
        WireWays x = row(4, 1, 1);
        x.cut(1);
        for (int k = 0; k < 5; k++) {
            due("walk where one can't come", x.walk(0, false, 3, k), NONE);
            due("walk to a cut wire", x.walk(0, true, 1, k), NONE);
            due("walk to a cut wire of its own", x.walk(1, true, 1, k), NONE);
            due("walk to a wire with no port", x.walk(0, true, 15, k), NONE);
        }
    }

    private static void walkBelow0() {
        WireWays x = row(4, 1, 1);
        for (int k : new int[] {-1, -2, -3, -4, -10, -256, -65536, Integer.MIN_VALUE + 1, Integer.MIN_VALUE}) {
            due("walk " + k, x.walk(0, false, 3, k), NONE);
            due("walk to itself " + k, x.walk(2, false, 2, k), NONE);
            due("walk to a wire " + k, x.walk(0, true, 2, k), NONE);
        }
    }

    // ---- Promise 11

    private static void reachAll() {
        WireWays x = row(10, 9, 9);
        for (int r = 0; r < 10; r++) {
            due("reach, in a row", x.reach(r), 10);
        }
        for (int wire = 8; wire >= 0; wire--) {
            x.cut(wire);
            due("reach of 0 this side of the cut", x.reach(0), wire + 1);
            due("reach of the next, alone", x.reach(wire + 1), 1);
        }
        x.mend(4);
        due("reach when one is mended", x.reach(4), 2);
        due("reach when one is mended", x.reach(5), 2);
    }

    private static void reachItself() {
        due("reach of the only router", new WireWays(1).reach(0), 1);
        WireWays x = new WireWays(10);
        for (int r = 0; r < 10; r++) {
            due("reach, on no wire", x.reach(r), 1);
            x.plug(r, 0, r, 1);
            due("reach, on a wire of its own", x.reach(r), 1);
            x.cut(r);
            due("reach, on a cut wire", x.reach(r), 1);
        }
    }

    private static void reachNoneSuch() {
        for (int routers = 1; routers <= 10; routers++) {
            WireWays x = row(routers, 1, 1);
            for (int bad : outside(0, routers - 1)) {
                due("reach " + bad + " of " + routers, x.reach(bad), NONE);
            }
        }
    }

    // ---- Promise 12

    private static void countRouters() {
        for (int routers = -1; routers <= 12; routers++) {
            due("count(0) of " + routers, new WireWays(routers).count(0), Math.max(1, Math.min(10, routers)));
        }
    }

    private static void countPorts() {
        due("count(1), none", new WireWays(10).count(1), 0);
        WireWays x = full();
        due("count(1), all", x.count(1), 40);
        x.cut(0);
        due("count(1), some on a cut wire", x.count(1), 40);
        x.draw(0, 0);
        due("count(1), all but the first", x.count(1), 39);
        x.draw(9, 3);
        due("count(1), all but the first and the last", x.count(1), 38);
    }

    private static void countCutWires() {
        WireWays x = new WireWays(1);
        due("count(2), none", x.count(2), 0);
        x.cut(0);
        x.cut(15);
        due("count(2), the first and the last", x.count(2), 2);
        for (int wire = 1; wire < 15; wire++) {
            x.cut(wire);
        }
        due("count(2), all", x.count(2), 16);
    }

    private static void countGreatestDistance() {
        due("count(3), up is more", row(10, 9, 1).count(3), 81);
        due("count(3), down is more", row(10, 1, 9).count(3), 81);
        due("count(3), the least above 0", row(2, 1, 1).count(3), 1);
        WireWays x = row(4, 2, 3);
        due("count(3), the whole row", x.count(3), 9);
        x.cut(1);
        due("count(3), passes over what has no distance", x.count(3), 3);
        x.plug(3, 3, 15, 9);
        due("count(3), a wire of one alone is no matter", x.count(3), 3);
    }

    private static void countNoneAbove() {
        due("count(3), one router", new WireWays(1).count(3), 0);
        due("count(3), ten and no port", new WireWays(10).count(3), 0);
        WireWays x = row(10, 9, 9);
        for (int wire = 0; wire < WIRES; wire++) {
            x.cut(wire);
        }
        due("count(3), all wires are cut", x.count(3), 0);
        WireWays apart = new WireWays(10);
        for (int r = 0; r < 10; r++) {
            apart.plug(r, 0, r, 9);
        }
        due("count(3), each on a wire of its own", apart.count(3), 0);
    }

    private static void countAnotherWhat() {
        WireWays x = full();
        for (int bad : outside(0, 3)) {
            due("count(" + bad + ")", x.count(bad), NONE);
        }
    }
}
