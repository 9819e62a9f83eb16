/** Promises 1 to 10 and the terms 'Reaches' and 'One hour': a test for each sentence that names an edge. */
public final class ReachesEdgesTest {
    private static final Check CHECK = new Check("ReachesEdgesTest");

    public static void main(String[] args) {
        newRiver();
        addReach();
        removeLastReach();
        setLateral();
        fill();
        queries();
        inflow();
        outflow();
        CHECK.finish();
    }

    // ---- promise 1

    private static void newRiver() {
        newRiverHasNoReaches();
        newRiverHasNoPulses();
        newRiverIsAtHourZero();
        riversShareNothing();
    }

    private static void newRiverHasNoReaches() {
        RiverReaches river = new RiverReaches();
        CHECK.due("reachCount() of a new river", river.reachCount(), 0);
        CHECK.outOfBounds("volume(0) of a new river", () -> river.volume(0));
        CHECK.due("totalVolume() of a new river", river.totalVolume(), 0);
    }

    private static void newRiverHasNoPulses() {
        RiverReaches river = new RiverReaches();
        CHECK.due("pulseCount() of a new river", river.pulseCount(), 0);
        CHECK.due("headInflow(0) of a new river", river.headInflow(0), 0);
        CHECK.due("headInflow(999) of a new river", river.headInflow(999), 0);
    }

    private static void newRiverIsAtHourZero() {
        RiverReaches river = new RiverReaches();
        CHECK.due("hour() of a new river", river.hour(), 0);
        CHECK.illegal("headInflow(-1) of a new river", () -> river.headInflow(-1));
    }

    private static void riversShareNothing() {
        RiverReaches one = Check.row(8);
        one.addPulse(0, 1, 1);
        one.pass(5);
        one.saveSnapshot();
        one.writeRiver();
        one.feed('c');
        CHECK.fault(one, "ux", 2);
        CHECK.denied(one, "ninth addReach()", 1, 8, () -> one.addReach(1, 5, 1));
        RiverReaches other = new RiverReaches();
        CHECK.due("reachCount() of another river", other.reachCount(), 0);
        CHECK.due("pulseCount() of another river", other.pulseCount(), 0);
        CHECK.due("hour() of another river", other.hour(), 0);
        CHECK.due("undoCount() of another river", other.undoCount(), 0);
        CHECK.due("feed() of another river", other.feed('c'), 1);
        CHECK.illegalState("restoreSnapshot() of another river", other::restoreSnapshot);
        CHECK.outOfBounds("lineCharacter(0) of another river", () -> other.lineCharacter(0));
        CHECK.noSuchElement("faultPosition() of another river", other::faultPosition);
        CHECK.noSuchElement("denial() of another river", other::denial);
    }

    // ---- promise 2

    private static void addReach() {
        surfaceFrom1To50();
        percentageFrom5To60();
        capacityFrom1To500();
        reachesAreIndexedFrom0To7();
        ninthReachIsDenied();
        numberOutOfRangeComesBeforeTheLimit();
        eighthReachAgainAfterARemoval();
        newReachHasTheInitialValues();
    }

    private static void surfaceFrom1To50() {
        CHECK.range("addReach() with a surface", 1, 50, RiverReaches::new, (r, number) -> r.addReach(number, 20, 30));
        RiverReaches least = new RiverReaches();
        least.addReach(1, 20, 30);
        CHECK.due("fill(0, 7) of the surface 1", least.fill(0, 7), 7);
        RiverReaches greatest = new RiverReaches();
        greatest.addReach(50, 20, 30);
        CHECK.due("fill(0, 49) of the surface 50", greatest.fill(0, 49), 0);
        CHECK.due("fill(0, 1) of the surface 50", greatest.fill(0, 1), 1);
    }

    private static void percentageFrom5To60() {
        CHECK.range("addReach() with a percentage", 5, 60, RiverReaches::new, (r, number) -> r.addReach(10, number, 30));
        RiverReaches least = new RiverReaches();
        least.addReach(10, 5, 500);
        least.fill(0, 19);
        CHECK.due("outflow(0) of 19 at 5 percent", least.outflow(0), 0);
        least.fill(0, 1);
        CHECK.due("outflow(0) of 20 at 5 percent", least.outflow(0), 1);
        RiverReaches greatest = new RiverReaches();
        greatest.addReach(10, 60, 500);
        greatest.fill(0, 1);
        CHECK.due("outflow(0) of 1 at 60 percent", greatest.outflow(0), 0);
        greatest.fill(0, 1);
        CHECK.due("outflow(0) of 2 at 60 percent", greatest.outflow(0), 1);
    }

    private static void capacityFrom1To500() {
        CHECK.range("addReach() with a capacity", 1, 500, RiverReaches::new, (r, number) -> r.addReach(10, 20, number));
        RiverReaches least = new RiverReaches();
        least.addReach(10, 60, 1);
        least.fill(0, 999);
        CHECK.due("outflow(0) with the capacity 1", least.outflow(0), 1);
        RiverReaches greatest = new RiverReaches();
        greatest.addReach(10, 60, 500);
        greatest.fill(0, 833);
        CHECK.due("outflow(0) just below the capacity 500", greatest.outflow(0), 499);
        greatest.fill(0, 166);
        CHECK.due("outflow(0) with the capacity 500", greatest.outflow(0), 500);
    }

    private static void reachesAreIndexedFrom0To7() {
        RiverReaches river = new RiverReaches();
        for (int index = 0; index < 8; index++) {
            CHECK.due("addReach()", river.addReach(10, 20, 30), index);
        }
    }

    private static void ninthReachIsDenied() {
        RiverReaches river = Check.row(8);
        river.pass(2);
        CHECK.denied(river, "ninth addReach()", 1, 8, () -> river.addReach(10, 20, 30));
        CHECK.due("reachCount() after the ninth", river.reachCount(), 8);
    }

    private static void numberOutOfRangeComesBeforeTheLimit() {
        RiverReaches river = Check.row(8);
        CHECK.illegal("ninth addReach(0, 20, 30)", () -> river.addReach(0, 20, 30));
        CHECK.illegal("ninth addReach(10, 61, 30)", () -> river.addReach(10, 61, 30));
        CHECK.illegal("ninth addReach(10, 20, 501)", () -> river.addReach(10, 20, 501));
        CHECK.noSuchElement("denial() after numbers out of range", river::denial);
    }

    private static void eighthReachAgainAfterARemoval() {
        RiverReaches river = Check.row(8);
        river.removeLastReach();
        CHECK.due("addReach() after a removal", river.addReach(10, 20, 30), 7);
        CHECK.denied(river, "addReach() after it", 1, 8, () -> river.addReach(10, 20, 30));
    }

    private static void newReachHasTheInitialValues() {
        RiverReaches river = Check.row(1);
        river.fill(0, 900);
        river.setLateral(0, 9);
        river.setStages(0, 500, 600);
        river.setGate(0, 9);
        river.setRule(0, 'r');
        river.removeLastReach();
        river.addReach(10, 20, 30);
        CHECK.due("lateral() of a new reach", river.lateral(0), 0);
        CHECK.due("volume() of a new reach", river.volume(0), 0);
        CHECK.due("opening() of a new reach", river.opening(0), 100);
        CHECK.due("rule() of a new reach", river.rule(0), 'f');
        CHECK.due("roomBelowFlood() of a new reach", river.roomBelowFlood(0), 399);
        river.fill(0, 199);
        CHECK.due("status() at the level 19 of a new reach", river.status(0), 0);
        river.fill(0, 1);
        CHECK.due("status() at the level 20 of a new reach", river.status(0), 1);
        river.fill(0, 199);
        CHECK.due("status() at the level 39 of a new reach", river.status(0), 1);
        river.fill(0, 1);
        CHECK.due("status() at the level 40 of a new reach", river.status(0), 2);
    }

    // ---- promise 3

    private static void removeLastReach() {
        removalWithoutReachesIsDenied();
        removalOfTheOnlyReach();
        removalOfTheEighthReach();
        volumeOfARemovedReachLeavesTheRiver();
        reachBeforeARemovedOneIsTheLast();
    }

    private static void removalWithoutReachesIsDenied() {
        RiverReaches river = new RiverReaches();
        CHECK.denied(river, "removeLastReach() of a new river", 3, 0, river::removeLastReach);
        river.addReach(10, 20, 30);
        river.pass(48);
        river.pass(1);
        river.removeLastReach();
        CHECK.denied(river, "removeLastReach() at hour 49", 3, 49, river::removeLastReach);
        CHECK.due("reachCount() after it", river.reachCount(), 0);
        CHECK.due("addReach() after it", river.addReach(10, 20, 30), 0);
    }

    private static void removalOfTheOnlyReach() {
        RiverReaches river = Check.row(1);
        CHECK.due("removeLastReach() of an empty reach", river.removeLastReach(), 0);
        CHECK.due("reachCount() without the only reach", river.reachCount(), 0);
        CHECK.outOfBounds("volume(0) without the only reach", () -> river.volume(0));
    }

    private static void removalOfTheEighthReach() {
        RiverReaches river = Check.row(8);
        river.fill(7, 1);
        river.fill(6, 2);
        CHECK.due("removeLastReach() of the eighth", river.removeLastReach(), 1);
        CHECK.due("reachCount() without the eighth", river.reachCount(), 7);
        CHECK.outOfBounds("volume(7) without the eighth", () -> river.volume(7));
        CHECK.due("volume(6) without the eighth", river.volume(6), 2);
    }

    private static void volumeOfARemovedReachLeavesTheRiver() {
        RiverReaches river = Check.row(2);
        river.fill(0, 30);
        river.fill(1, 400);
        CHECK.due("removeLastReach()", river.removeLastReach(), 400);
        CHECK.due("totalVolume() without it", river.totalVolume(), 30);
        CHECK.due("totalOut() with it", river.totalOut(), 400);
        CHECK.due("totalIn() with it", river.totalIn(), 430);
    }

    private static void reachBeforeARemovedOneIsTheLast() {
        RiverReaches river = Check.row(2);
        river.fill(0, 100);
        river.fill(1, 50);
        CHECK.due("pass(1) out of the second reach", river.pass(1), 10);
        CHECK.due("removeLastReach()", river.removeLastReach(), 60);
        CHECK.due("pass(1) out of the first reach", river.pass(1), 16);
        CHECK.due("totalOut()", river.totalOut(), 86);
    }

    // ---- promise 4

    private static void setLateral() {
        lateralFrom0To50();
        lateralOfNoSuchReach();
        missingReachComesBeforeTheInflow();
        presentLateralIsDenied();
        lateralOfOneReachOnly();
    }

    private static RiverReaches halfLateral() {
        RiverReaches river = Check.row(1);
        river.setLateral(0, 25);
        return river;
    }

    private static void lateralFrom0To50() {
        CHECK.range("setLateral()", 0, 50, ReachesEdgesTest::halfLateral, (r, number) -> r.setLateral(0, number));
        RiverReaches river = Check.row(1);
        CHECK.due("lateral(0) at first", river.lateral(0), 0);
        CHECK.due("setLateral(0, 50)", river.setLateral(0, 50), 0);
        CHECK.due("lateral(0)", river.lateral(0), 50);
        river.pass(1);
        CHECK.due("volume(0) by the lateral inflow 50", river.volume(0), 50);
        CHECK.due("setLateral(0, 0)", river.setLateral(0, 0), 50);
        CHECK.due("lateral(0)", river.lateral(0), 0);
    }

    private static void lateralOfNoSuchReach() {
        CHECK.reachIndexes("setLateral()", Check::row, (r, index) -> r.setLateral(index, 1));
    }

    private static void missingReachComesBeforeTheInflow() {
        CHECK.outOfBounds("setLateral(1, 51) of one reach", () -> Check.row(1).setLateral(1, 51));
        CHECK.outOfBounds("setLateral(-1, -1) of one reach", () -> Check.row(1).setLateral(-1, -1));
        RiverReaches river = Check.row(1);
        CHECK.outOfBounds("setLateral(1, 0) of one reach", () -> river.setLateral(1, 0));
        CHECK.noSuchElement("denial() after it", river::denial);
    }

    private static void presentLateralIsDenied() {
        RiverReaches river = Check.row(1);
        river.pass(3);
        CHECK.denied(river, "setLateral(0, 0) at first", 4, 0, () -> river.setLateral(0, 0));
        river.setLateral(0, 50);
        CHECK.denied(river, "setLateral(0, 50) again", 4, 50, () -> river.setLateral(0, 50));
        river.setLateral(0, 1);
        CHECK.denied(river, "setLateral(0, 1) again", 4, 1, () -> river.setLateral(0, 1));
    }

    private static void lateralOfOneReachOnly() {
        RiverReaches river = Check.row(8);
        river.setLateral(7, 50);
        river.setLateral(0, 3);
        CHECK.due("lateral(0)", river.lateral(0), 3);
        CHECK.due("lateral(1)", river.lateral(1), 0);
        CHECK.due("lateral(6)", river.lateral(6), 0);
        CHECK.due("lateral(7)", river.lateral(7), 50);
    }

    // ---- promise 5

    private static void fill() {
        fillFrom1To999();
        fillOfNoSuchReach();
        missingReachComesBeforeTheVolume();
        fillAnswersTheLevelAfterwards();
        fillAddsAndRaisesNoAlarm();
    }

    private static void fillFrom1To999() {
        CHECK.range("fill()", 1, 999, () -> Check.row(1), (r, number) -> r.fill(0, number));
        RiverReaches river = Check.row(1);
        river.fill(0, 999);
        CHECK.due("volume(0) of 999", river.volume(0), 999);
        river.fill(0, 1);
        CHECK.due("volume(0) of 1 more", river.volume(0), 1000);
    }

    private static void fillOfNoSuchReach() {
        CHECK.reachIndexes("fill()", Check::row, (r, index) -> r.fill(index, 1));
    }

    private static void missingReachComesBeforeTheVolume() {
        CHECK.outOfBounds("fill(0, 0) of none", () -> new RiverReaches().fill(0, 0));
        CHECK.outOfBounds("fill(-1, 1000) of one reach", () -> Check.row(1).fill(-1, 1000));
    }

    private static void fillAnswersTheLevelAfterwards() {
        RiverReaches river = Check.row(1);
        CHECK.due("fill(0, 9)", river.fill(0, 9), 0);
        CHECK.due("fill(0, 1)", river.fill(0, 1), 1);
        CHECK.due("fill(0, 999)", river.fill(0, 999), 100);
        CHECK.due("fill(0, 1)", river.fill(0, 1), 101);
    }

    private static void fillAddsAndRaisesNoAlarm() {
        RiverReaches river = Check.row(2);
        river.fill(1, 999);
        CHECK.due("volume(0) by filling reach 1", river.volume(0), 0);
        CHECK.due("totalIn() by filling", river.totalIn(), 999);
        CHECK.due("alarms() by filling", river.alarms(), 0);
        river.setGate(1, 0);
        river.pass(1);
        CHECK.due("alarms() of an hour that begins in flood", river.alarms(), 0);
    }

    // ---- promises 6 to 10

    private static void queries() {
        CHECK.due("reachCount() of none", Check.row(0).reachCount(), 0);
        CHECK.due("reachCount() of one", Check.row(1).reachCount(), 1);
        CHECK.due("reachCount() of eight", Check.row(8).reachCount(), 8);
        CHECK.reachIndexes("volume()", Check::row, RiverReaches::volume);
        CHECK.reachIndexes("lateral()", Check::row, RiverReaches::lateral);
        CHECK.reachIndexes("inflow()", Check::row, RiverReaches::inflow);
        CHECK.reachIndexes("outflow()", Check::row, RiverReaches::outflow);
        RiverReaches river = Check.row(8);
        river.fill(7, 70);
        CHECK.due("volume(0) of an empty reach", river.volume(0), 0);
        CHECK.due("volume(7) of the last reach", river.volume(7), 70);
        CHECK.due("inflow(7) of an empty reach before it", river.inflow(7), 0);
        CHECK.due("outflow(0) of an empty reach", river.outflow(0), 0);
        CHECK.due("outflow(7) of the last reach", river.outflow(7), 14);
    }

    private static void inflow() {
        headInflowIsForReach0();
        headInflowIsOfTheNextHour();
        outflowOfTheReachBeforeFlowsIn();
        inflowAtItsGreatest();
    }

    private static void headInflowIsForReach0() {
        RiverReaches river = Check.row(8);
        river.addPulse(0, 1, 200);
        CHECK.due("inflow(0) by a pulse", river.inflow(0), 200);
        for (int index = 1; index < 8; index++) {
            CHECK.due("inflow(" + index + ") by a pulse", river.inflow(index), 0);
        }
    }

    private static void headInflowIsOfTheNextHour() {
        RiverReaches river = Check.row(1);
        river.setLateral(0, 3);
        river.addPulse(1, 2, 10);
        CHECK.due("inflow(0) in the hour before the pulse", river.inflow(0), 3);
        river.pass(1);
        CHECK.due("inflow(0) in the first hour of the pulse", river.inflow(0), 13);
        river.pass(1);
        CHECK.due("inflow(0) in the last hour of the pulse", river.inflow(0), 13);
        river.pass(1);
        CHECK.due("inflow(0) in the hour after the pulse", river.inflow(0), 3);
    }

    private static void outflowOfTheReachBeforeFlowsIn() {
        RiverReaches river = Check.row(8);
        river.fill(6, 100);
        river.setLateral(6, 9);
        river.setLateral(7, 2);
        CHECK.due("inflow(7)", river.inflow(7), 22);
        CHECK.due("inflow(6)", river.inflow(6), 9);
        river.setGate(6, 0);
        CHECK.due("inflow(7) below a closed gate", river.inflow(7), 2);
    }

    private static void inflowAtItsGreatest() {
        RiverReaches river = new RiverReaches();
        river.addReach(10, 60, 500);
        river.addReach(10, 60, 500);
        river.fill(0, 999);
        river.setLateral(0, 50);
        river.setLateral(1, 50);
        for (int i = 0; i < 8; i++) {
            river.addPulse(0, 24, 200);
        }
        CHECK.due("inflow(0) of eight pulses", river.inflow(0), 1650);
        CHECK.due("inflow(1) of the capacity", river.inflow(1), 550);
    }

    private static void outflow() {
        outflowIsTheSmallerNumber();
        outflowByVolumeIsRoundedDown();
        outflowByCapacityIsRoundedDown();
        outflowOfAClosedGate();
    }

    private static void outflowIsTheSmallerNumber() {
        RiverReaches river = Check.row(1);
        river.fill(0, 145);
        CHECK.due("outflow(0) below the capacity", river.outflow(0), 29);
        river.fill(0, 5);
        CHECK.due("outflow(0) at the capacity", river.outflow(0), 30);
        river.fill(0, 5);
        CHECK.due("outflow(0) above the capacity", river.outflow(0), 30);
    }

    private static void outflowByVolumeIsRoundedDown() {
        RiverReaches river = Check.row(1);
        river.fill(0, 4);
        CHECK.due("outflow(0) of 4", river.outflow(0), 0);
        river.fill(0, 1);
        CHECK.due("outflow(0) of 5", river.outflow(0), 1);
        river.fill(0, 4);
        CHECK.due("outflow(0) of 9", river.outflow(0), 1);
        river.fill(0, 1);
        CHECK.due("outflow(0) of 10", river.outflow(0), 2);
    }

    private static void outflowByCapacityIsRoundedDown() {
        RiverReaches river = Check.row(1);
        river.fill(0, 999);
        river.setGate(0, 3);
        CHECK.due("outflow(0) at the opening 3", river.outflow(0), 0);
        river.setGate(0, 4);
        CHECK.due("outflow(0) at the opening 4", river.outflow(0), 1);
        river.setGate(0, 99);
        CHECK.due("outflow(0) at the opening 99", river.outflow(0), 29);
        river.setGate(0, 100);
        CHECK.due("outflow(0) at the opening 100", river.outflow(0), 30);
    }

    private static void outflowOfAClosedGate() {
        RiverReaches river = Check.row(1);
        river.fill(0, 999);
        river.setGate(0, 0);
        CHECK.due("outflow(0) of a closed gate", river.outflow(0), 0);
        CHECK.due("pass(48) of a closed gate", river.pass(48), 0);
        CHECK.due("volume(0) of a closed gate", river.volume(0), 999);
    }
}
