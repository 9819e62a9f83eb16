/** Promises 11 to 20: levels, stages and gates. */
public final class GatesTest {
    private static final Check CHECK = new Check("GatesTest");

    public static void main(String[] args) {
        setStages();
        setGate();
        setRule();
        levelsAndStatus();
        holdRule();
        releaseRule();
        roomBelowFlood();
        reachByLevel();
        queriesOutOfBounds();
        CHECK.finish();
    }

    private static RiverReaches twoReaches() {
        RiverReaches river = new RiverReaches();
        river.addReach(10, 20, 30);
        river.addReach(5, 50, 100);
        return river;
    }

    private static void setStages() {
        RiverReaches river = twoReaches();
        river.fill(0, 100);
        CHECK.due("setStages(0, 11, 12)", river.setStages(0, 11, 12), 0);
        CHECK.due("setStages(0, 10, 11)", river.setStages(0, 10, 11), 1);
        CHECK.due("setStages(0, 9, 10)", river.setStages(0, 9, 10), 2);
        CHECK.due("setStages(0, 9, 10) again is a change", river.setStages(0, 9, 10), 2);
        CHECK.due("undoCount()", river.undoCount(), 7);
        CHECK.due("setStages(0, 1, 2)", river.setStages(0, 1, 2), 2);
        CHECK.due("setStages(0, 998, 999)", river.setStages(0, 998, 999), 0);
        CHECK.illegal("setStages(0, 0, 5)", () -> river.setStages(0, 0, 5));
        CHECK.illegal("setStages(0, 999, 1000)", () -> river.setStages(0, 999, 1000));
        CHECK.illegal("setStages(0, 998, 1000)", () -> river.setStages(0, 998, 1000));
        CHECK.illegal("setStages(0, 5, 5)", () -> river.setStages(0, 5, 5));
        CHECK.illegal("setStages(0, 6, 5)", () -> river.setStages(0, 6, 5));
        CHECK.illegal("setStages(0, -1, 1)", () -> river.setStages(0, -1, 1));
        CHECK.outOfBounds("setStages(2, 5, 5)", () -> river.setStages(2, 5, 5));
        CHECK.outOfBounds("setStages(-1, 5, 6)", () -> river.setStages(-1, 5, 6));
        CHECK.due("room after refusals", river.roomBelowFlood(0), 9889);
        CHECK.due("alarms() by stages", river.alarms(), 0);
    }

    private static void setGate() {
        RiverReaches river = twoReaches();
        CHECK.denied(river, "setGate(0, 100)", 4, 100, () -> river.setGate(0, 100));
        CHECK.due("setGate(0, 0)", river.setGate(0, 0), 100);
        CHECK.denied(river, "setGate(0, 0)", 4, 0, () -> river.setGate(0, 0));
        CHECK.due("setGate(0, 37)", river.setGate(0, 37), 0);
        CHECK.due("opening(0)", river.opening(0), 37);
        CHECK.due("opening(1)", river.opening(1), 100);
        CHECK.illegal("setGate(0, -1)", () -> river.setGate(0, -1));
        CHECK.illegal("setGate(0, 101)", () -> river.setGate(0, 101));
        CHECK.outOfBounds("setGate(2, 101)", () -> river.setGate(2, 101));
        CHECK.outOfBounds("setGate(-1, 50)", () -> river.setGate(-1, 50));
        CHECK.due("opening(0) after refusals", river.opening(0), 37);
    }

    private static void setRule() {
        RiverReaches river = twoReaches();
        CHECK.denied(river, "setRule(0, 'f')", 4, 'f', () -> river.setRule(0, 'f'));
        CHECK.due("setRule(0, 'h')", river.setRule(0, 'h'), 100);
        CHECK.due("rule(0)", river.rule(0), 'h');
        CHECK.due("rule(1)", river.rule(1), 'f');
        CHECK.denied(river, "setRule(0, 'h')", 4, 'h', () -> river.setRule(0, 'h'));
        CHECK.due("setRule(0, 'r')", river.setRule(0, 'r'), 100);
        CHECK.denied(river, "setRule(0, 'r')", 4, 'r', () -> river.setRule(0, 'r'));
        CHECK.due("setRule(0, 'f')", river.setRule(0, 'f'), 100);
        for (char none : new char[] {'x', 'F', 'H', 'R', 0, 'g', 'f' + 256, 65535}) {
            CHECK.illegal("setRule(0, " + (int) none + ")", () -> river.setRule(0, none));
        }
        CHECK.outOfBounds("setRule(2, 'x')", () -> river.setRule(2, 'x'));
        CHECK.outOfBounds("setRule(-1, 'h')", () -> river.setRule(-1, 'h'));
        CHECK.due("rule(0) after refusals", river.rule(0), 'f');
        river.setGate(0, 45);
        river.fill(1, 200);
        CHECK.due("setRule answers the opening", river.setRule(0, 'h'), 22);
        river.fill(0, 400);
        CHECK.due("setRule answers the opening", river.setRule(0, 'r'), 100);
        CHECK.due("setRule answers the opening", river.setRule(0, 'f'), 45);
    }

    private static void levelsAndStatus() {
        RiverReaches river = twoReaches();
        CHECK.due("level(0)", river.level(0), 0);
        river.fill(0, 199);
        CHECK.due("level(0), rounded down", river.level(0), 19);
        CHECK.due("status(0) below the warning level", river.status(0), 0);
        river.fill(0, 1);
        CHECK.due("status(0) at the warning level", river.status(0), 1);
        CHECK.due("isFlooded(0) at the warning level", river.isFlooded(0), false);
        river.fill(0, 199);
        CHECK.due("level(0)", river.level(0), 39);
        CHECK.due("status(0) below the flood level", river.status(0), 1);
        CHECK.due("isFlooded(0) below the flood level", river.isFlooded(0), false);
        river.fill(0, 1);
        CHECK.due("status(0) at the flood level", river.status(0), 2);
        CHECK.due("isFlooded(0) at the flood level", river.isFlooded(0), true);
        CHECK.due("isFlooded(1)", river.isFlooded(1), false);
    }

    private static void holdRule() {
        RiverReaches river = twoReaches();
        river.setGate(0, 51);
        river.setGate(1, 51);
        river.setRule(0, 'h');
        river.setRule(1, 'h');
        river.fill(0, 999);
        CHECK.due("hold with the next reach not in flood", river.opening(0), 51);
        CHECK.due("hold of the last reach", river.opening(1), 51);
        river.fill(1, 199);
        CHECK.due("hold with the next reach warned", river.opening(0), 51);
        river.fill(1, 1);
        CHECK.due("hold with the next reach in flood", river.opening(0), 25);
        CHECK.due("hold of the last reach, itself in flood", river.opening(1), 51);
        CHECK.due("outflow on hold", river.outflow(0), 7);
        river.removeLastReach();
        CHECK.due("hold without a next reach any more", river.opening(0), 51);
    }

    private static void releaseRule() {
        RiverReaches river = twoReaches();
        river.setGate(0, 10);
        river.setGate(1, 20);
        river.setRule(0, 'r');
        river.fill(1, 999);
        river.fill(0, 399);
        CHECK.due("release before the flood", river.opening(0), 10);
        CHECK.due("outflow before the flood", river.outflow(0), 3);
        river.fill(0, 1);
        CHECK.due("release in flood", river.opening(0), 100);
        CHECK.due("outflow in flood", river.outflow(0), 30);
        CHECK.due("fixed in flood", river.opening(1), 20);
        river.removeLastReach();
        CHECK.due("release of the last reach", river.opening(0), 100);
    }

    private static void roomBelowFlood() {
        RiverReaches river = twoReaches();
        CHECK.due("roomBelowFlood(0)", river.roomBelowFlood(0), 399);
        river.fill(0, 300);
        int room = river.roomBelowFlood(0);
        CHECK.due("roomBelowFlood(0)", room, 99);
        river.fill(0, room);
        CHECK.due("status with no room", river.status(0), 1);
        CHECK.due("roomBelowFlood(0)", river.roomBelowFlood(0), 0);
        river.fill(0, 1);
        CHECK.due("status with one more", river.status(0), 2);
        CHECK.noSuchElement("roomBelowFlood(0) in flood", () -> river.roomBelowFlood(0));
        CHECK.due("roomBelowFlood(1)", river.roomBelowFlood(1), 199);
    }

    private static void reachByLevel() {
        RiverReaches river = new RiverReaches();
        CHECK.noSuchElement("reachByLevel(0) of none", () -> river.reachByLevel(0));
        river.addReach(10, 5, 1);
        river.addReach(5, 5, 1);
        river.addReach(20, 5, 1);
        river.addReach(10, 5, 1);
        river.addReach(1, 5, 1);
        river.fill(0, 35);
        river.fill(1, 17);
        river.fill(2, 60);
        river.fill(3, 35);
        river.fill(4, 4);
        int[] ranks = {4, 2, 0, 3, 1};
        for (int rank = 0; rank < ranks.length; rank++) {
            CHECK.due("reachByLevel(" + rank + ")", river.reachByLevel(rank), ranks[rank]);
        }
        CHECK.noSuchElement("reachByLevel(5)", () -> river.reachByLevel(5));
        river.removeLastReach();
        CHECK.due("reachByLevel(0) without the highest reach", river.reachByLevel(0), 2);
        CHECK.due("reachByLevel(3) without the highest reach", river.reachByLevel(3), 1);
        CHECK.noSuchElement("reachByLevel(4) without it", () -> river.reachByLevel(4));
        CHECK.noSuchElement("reachByLevel(-1)", () -> river.reachByLevel(-1));
        CHECK.noSuchElement("reachByLevel(least int)", () -> river.reachByLevel(Integer.MIN_VALUE));
    }

    private static void queriesOutOfBounds() {
        RiverReaches river = twoReaches();
        for (int index : new int[] {-1, 2, 8, Integer.MAX_VALUE, Integer.MIN_VALUE}) {
            CHECK.outOfBounds("level(" + index + ")", () -> river.level(index));
            CHECK.outOfBounds("status(" + index + ")", () -> river.status(index));
            CHECK.outOfBounds("isFlooded(" + index + ")", () -> river.isFlooded(index) ? 1 : 0);
            CHECK.outOfBounds("opening(" + index + ")", () -> river.opening(index));
            CHECK.outOfBounds("rule(" + index + ")", () -> river.rule(index));
            CHECK.outOfBounds("roomBelowFlood(" + index + ")", () -> river.roomBelowFlood(index));
        }
    }
}
