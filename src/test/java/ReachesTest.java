/** Promises 1 to 10: a new object and its reaches. */
public final class ReachesTest {
    private static final Check CHECK = new Check("ReachesTest");

    public static void main(String[] args) {
        newObject();
        addReach();
        addReachOutOfRange();
        addReachDenied();
        removeLastReach();
        setLateral();
        fill();
        queriesOutOfBounds();
        flows();
        CHECK.finish();
    }

    private static void newObject() {
        RiverReaches river = new RiverReaches();
        CHECK.due("new: reachCount()", river.reachCount(), 0);
        CHECK.due("new: pulseCount()", river.pulseCount(), 0);
        CHECK.due("new: hour()", river.hour(), 0);
        CHECK.due("new: totalVolume()", river.totalVolume(), 0);
        CHECK.due("new: totalIn()", river.totalIn(), 0);
        CHECK.due("new: totalOut()", river.totalOut(), 0);
        CHECK.due("new: alarms()", river.alarms(), 0);
        CHECK.due("new: undoCount()", river.undoCount(), 0);
        CHECK.due("new: headInflow(0)", river.headInflow(0), 0);
        CHECK.due("new: pendingInflow()", river.pendingInflow(), 0);
        CHECK.due("new: pendingInflowByPulses()", river.pendingInflowByPulses(), 0);
        CHECK.outOfBounds("new: lineCharacter(0)", () -> river.lineCharacter(0));
        CHECK.noSuchElement("new: faultPosition()", river::faultPosition);
        CHECK.noSuchElement("new: denial()", river::denial);
    }

    private static void addReach() {
        RiverReaches river = new RiverReaches();
        CHECK.due("addReach, all least", river.addReach(1, 5, 1), 0);
        CHECK.due("addReach, all greatest", river.addReach(50, 60, 500), 1);
        CHECK.due("reachCount()", river.reachCount(), 2);
        CHECK.due("volume of a new reach", river.volume(1), 0);
        CHECK.due("lateral of a new reach", river.lateral(1), 0);
        CHECK.due("opening of a new reach", river.opening(1), 100);
        CHECK.due("rule of a new reach", river.rule(1), 'f');
        CHECK.due("room of a new reach", river.roomBelowFlood(1), 40 * 50 - 1);
        river.fill(0, 19);
        CHECK.due("status below the first warning level", river.status(0), 0);
        river.fill(0, 1);
        CHECK.due("status at the first warning level", river.status(0), 1);
        river.fill(0, 19);
        CHECK.due("status below the first flood level", river.status(0), 1);
        river.fill(0, 1);
        CHECK.due("status at the first flood level", river.status(0), 2);
    }

    private static void addReachOutOfRange() {
        RiverReaches river = new RiverReaches();
        CHECK.illegal("addReach(0, 5, 1)", () -> river.addReach(0, 5, 1));
        CHECK.illegal("addReach(51, 5, 1)", () -> river.addReach(51, 5, 1));
        CHECK.illegal("addReach(-1, 5, 1)", () -> river.addReach(-1, 5, 1));
        CHECK.illegal("addReach(1, 4, 1)", () -> river.addReach(1, 4, 1));
        CHECK.illegal("addReach(1, 61, 1)", () -> river.addReach(1, 61, 1));
        CHECK.illegal("addReach(1, 5, 0)", () -> river.addReach(1, 5, 0));
        CHECK.illegal("addReach(1, 5, 501)", () -> river.addReach(1, 5, 501));
        CHECK.illegal("addReach(greatest int)", () -> river.addReach(Integer.MAX_VALUE, 5, 1));
        CHECK.due("reachCount() after refusals", river.reachCount(), 0);
        CHECK.due("undoCount() after refusals", river.undoCount(), 0);
        CHECK.noSuchElement("no denial by a number out of range", river::denial);
    }

    private static void addReachDenied() {
        RiverReaches river = new RiverReaches();
        for (int i = 0; i < 8; i++) {
            CHECK.due("addReach number " + i, river.addReach(10, 10, 10), i);
        }
        river.pass(3);
        CHECK.denied(river, "ninth addReach", 1, 8, () -> river.addReach(10, 10, 10));
        CHECK.illegal("ninth addReach out of range", () -> river.addReach(10, 10, 0));
        CHECK.due("reachCount() after the ninth", river.reachCount(), 8);
        river.removeLastReach();
        CHECK.due("addReach after a removal", river.addReach(10, 10, 10), 7);
    }

    private static void removeLastReach() {
        RiverReaches river = new RiverReaches();
        CHECK.denied(river, "removeLastReach() of none", 3, 0, river::removeLastReach);
        river.addReach(10, 20, 30);
        river.pass(7);
        river.addReach(5, 50, 100);
        river.fill(1, 123);
        river.setLateral(1, 9);
        river.setGate(1, 50);
        river.setRule(1, 'h');
        river.setStages(1, 2, 3);
        CHECK.due("removeLastReach()", river.removeLastReach(), 123);
        CHECK.due("reachCount()", river.reachCount(), 1);
        CHECK.due("totalOut() with a removed reach", river.totalOut(), 123);
        CHECK.due("totalVolume() without it", river.totalVolume(), 0);
        CHECK.due("addReach() in its place", river.addReach(5, 50, 100), 1);
        CHECK.due("its volume", river.volume(1), 0);
        CHECK.due("its lateral", river.lateral(1), 0);
        CHECK.due("its opening", river.opening(1), 100);
        CHECK.due("its rule", river.rule(1), 'f');
        CHECK.due("its room", river.roomBelowFlood(1), 199);
        river.removeLastReach();
        CHECK.due("removeLastReach() of an empty one", river.removeLastReach(), 0);
        CHECK.denied(river, "removeLastReach() at hour 7", 3, 7, river::removeLastReach);
    }

    private static void setLateral() {
        RiverReaches river = new RiverReaches();
        CHECK.outOfBounds("setLateral of none", () -> river.setLateral(0, 1));
        river.addReach(10, 20, 30);
        CHECK.due("setLateral(0, 50)", river.setLateral(0, 50), 0);
        CHECK.due("lateral(0)", river.lateral(0), 50);
        CHECK.due("setLateral(0, 0)", river.setLateral(0, 0), 50);
        CHECK.denied(river, "setLateral(0, 0) again", 4, 0, () -> river.setLateral(0, 0));
        river.setLateral(0, 17);
        CHECK.denied(river, "setLateral(0, 17) again", 4, 17, () -> river.setLateral(0, 17));
        CHECK.illegal("setLateral(0, -1)", () -> river.setLateral(0, -1));
        CHECK.illegal("setLateral(0, 51)", () -> river.setLateral(0, 51));
        CHECK.outOfBounds("setLateral(1, 51)", () -> river.setLateral(1, 51));
        CHECK.outOfBounds("setLateral(-1, 5)", () -> river.setLateral(-1, 5));
        CHECK.due("lateral(0) after refusals", river.lateral(0), 17);
        CHECK.due("undoCount()", river.undoCount(), 4);
    }

    private static void fill() {
        RiverReaches river = new RiverReaches();
        CHECK.outOfBounds("fill of none", () -> river.fill(0, 1));
        river.addReach(7, 20, 30);
        CHECK.due("fill(0, 1)", river.fill(0, 1), 0);
        CHECK.due("fill(0, 999)", river.fill(0, 999), 142);
        CHECK.due("fill(0, 7)", river.fill(0, 7), 143);
        CHECK.due("volume(0)", river.volume(0), 1007);
        CHECK.due("totalIn() by filling", river.totalIn(), 1007);
        CHECK.illegal("fill(0, 0)", () -> river.fill(0, 0));
        CHECK.illegal("fill(0, 1000)", () -> river.fill(0, 1000));
        CHECK.illegal("fill(0, -5)", () -> river.fill(0, -5));
        CHECK.outOfBounds("fill(1, 0)", () -> river.fill(1, 0));
        CHECK.outOfBounds("fill(-1, 10)", () -> river.fill(-1, 10));
        CHECK.due("volume(0) after refusals", river.volume(0), 1007);
        CHECK.due("alarms() by filling", river.alarms(), 0);
    }

    private static void queriesOutOfBounds() {
        RiverReaches river = new RiverReaches();
        river.addReach(7, 20, 30);
        for (int index : new int[] {-1, 1, 7, 8, Integer.MAX_VALUE, Integer.MIN_VALUE}) {
            CHECK.outOfBounds("volume(" + index + ")", () -> river.volume(index));
            CHECK.outOfBounds("lateral(" + index + ")", () -> river.lateral(index));
            CHECK.outOfBounds("inflow(" + index + ")", () -> river.inflow(index));
            CHECK.outOfBounds("outflow(" + index + ")", () -> river.outflow(index));
        }
    }

    private static void flows() {
        RiverReaches river = new RiverReaches();
        river.addReach(10, 33, 40);
        river.addReach(10, 60, 500);
        river.fill(0, 10);
        CHECK.due("outflow by percentage, rounded down", river.outflow(0), 3);
        river.fill(0, 111);
        CHECK.due("outflow by percentage below the capacity", river.outflow(0), 39);
        river.fill(0, 900);
        CHECK.due("outflow by capacity", river.outflow(0), 40);
        river.setGate(0, 99);
        CHECK.due("outflow by capacity and gate, rounded down", river.outflow(0), 39);
        river.setGate(0, 0);
        CHECK.due("outflow with a closed gate", river.outflow(0), 0);
        river.setGate(0, 50);
        river.setLateral(0, 6);
        river.setLateral(1, 7);
        river.addPulse(0, 1, 100);
        river.addPulse(1, 1, 30);
        CHECK.due("inflow of the first reach", river.inflow(0), 106);
        CHECK.due("inflow of the second reach", river.inflow(1), 27);
        river.pass(1);
        CHECK.due("volume(0) after an hour", river.volume(0), 1021 + 106 - 20);
        CHECK.due("volume(1) after an hour", river.volume(1), 27);
        CHECK.due("inflow of the first reach in the hour after", river.inflow(0), 36);
        CHECK.due("outflow of the second reach", river.outflow(1), 16);
    }
}
