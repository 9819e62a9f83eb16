/** Promises 28 to 38: a test for each sentence that names an edge of forecasts, totals and statistics. */
public final class ForecastsEdgesTest {
    private static final Check CHECK = new Check("ForecastsEdgesTest");

    public static void main(String[] args) {
        levelAfter();
        peakLevel();
        hoursUntilFlood();
        volumeAfter();
        forecastsUseTheGatesAndPulses();
        totals();
        greatestVolumes();
        meanLevel();
        floodedShare();
        CHECK.finish();
    }

    /** A closed reach of the surface 1 that rises by one each hour. */
    private static RiverReaches rising() {
        RiverReaches river = Check.filled(1, 0);
        river.setGate(0, 0);
        river.setLateral(0, 1);
        return river;
    }

    // ---- promise 28

    private static void levelAfter() {
        CHECK.range("levelAfter()", 0, 48, () -> Check.row(1), (r, number) -> r.levelAfter(0, number));
        CHECK.reachIndexes("levelAfter()", Check::row, (r, index) -> r.levelAfter(index, 1));
        CHECK.outOfBounds("levelAfter(0, 49) of none", () -> new RiverReaches().levelAfter(0, 49));
        CHECK.outOfBounds("levelAfter(1, -1) of one reach", () -> Check.row(1).levelAfter(1, -1));
        RiverReaches river = rising();
        CHECK.due("levelAfter(0, 0)", river.levelAfter(0, 0), 0);
        CHECK.due("levelAfter(0, 1)", river.levelAfter(0, 1), 1);
        CHECK.due("levelAfter(0, 48)", river.levelAfter(0, 48), 48);
        CHECK.due("levelAfter(0, 1) again", river.levelAfter(0, 1), 1);
        CHECK.due("level(0) after forecasts", river.level(0), 0);
        CHECK.due("hour() after forecasts", river.hour(), 0);
        CHECK.due("alarms() after forecasts", river.alarms(), 0);
        CHECK.due("totalIn() after forecasts", river.totalIn(), 0);
        CHECK.due("undoCount() after forecasts", river.undoCount(), 3);
    }

    // ---- promise 29

    private static void peakLevel() {
        CHECK.range("peakLevel()", 0, 48, () -> Check.row(1), (r, number) -> r.peakLevel(0, number));
        CHECK.reachIndexes("peakLevel()", Check::row, (r, index) -> r.peakLevel(index, 1));
        CHECK.outOfBounds("peakLevel(0, 49) of none", () -> new RiverReaches().peakLevel(0, 49));
        CHECK.outOfBounds("peakLevel(1, -1) of one reach", () -> Check.row(1).peakLevel(1, -1));
        peakNow();
        peakAfterTheLastHour();
        peakInBetween();
    }

    private static void peakNow() {
        RiverReaches river = Check.filled(1, 100);
        CHECK.due("peakLevel(0, 0)", river.peakLevel(0, 0), 100);
        CHECK.due("peakLevel(0, 1) of a falling level", river.peakLevel(0, 1), 100);
        CHECK.due("peakLevel(0, 48) of a falling level", river.peakLevel(0, 48), 100);
    }

    private static void peakAfterTheLastHour() {
        RiverReaches river = rising();
        CHECK.due("peakLevel(0, 0) of a rising level", river.peakLevel(0, 0), 0);
        CHECK.due("peakLevel(0, 1) of a rising level", river.peakLevel(0, 1), 1);
        CHECK.due("peakLevel(0, 48) of a rising level", river.peakLevel(0, 48), 48);
        CHECK.due("level(0) after it", river.level(0), 0);
    }

    private static void peakInBetween() {
        RiverReaches river = new RiverReaches();
        river.addReach(1, 50, 500);
        river.addPulse(3, 1, 64);
        CHECK.due("peakLevel(0, 3) before the pulse", river.peakLevel(0, 3), 0);
        CHECK.due("peakLevel(0, 4) with the pulse", river.peakLevel(0, 4), 64);
        CHECK.due("peakLevel(0, 48) past the pulse", river.peakLevel(0, 48), 64);
        CHECK.due("levelAfter(0, 48) past the pulse", river.levelAfter(0, 48), 1);
    }

    // ---- promise 30

    private static RiverReaches flooded(int count) {
        RiverReaches river = Check.row(count);
        for (int index = 0; index < count; index++) {
            river.fill(index, 999);
        }
        return river;
    }

    private static void hoursUntilFlood() {
        CHECK.reachIndexes("hoursUntilFlood()", ForecastsEdgesTest::flooded, RiverReaches::hoursUntilFlood);
        noHoursIfItIsInFloodNow();
        oneHourBelowTheFlood();
        atMost48Hours();
        firstTimeOfAFloodThatPasses();
        neverInFlood();
    }

    private static void noHoursIfItIsInFloodNow() {
        RiverReaches river = Check.filled(1, 40);
        CHECK.due("hoursUntilFlood(0) in flood that falls", river.hoursUntilFlood(0), 0);
        river.fill(0, 999);
        CHECK.due("hoursUntilFlood(0) far above the flood level", river.hoursUntilFlood(0), 0);
    }

    private static void oneHourBelowTheFlood() {
        RiverReaches river = rising();
        river.fill(0, 39);
        CHECK.due("hoursUntilFlood(0) just below the flood", river.hoursUntilFlood(0), 1);
    }

    private static void atMost48Hours() {
        RiverReaches river = rising();
        river.setStages(0, 20, 48);
        CHECK.due("hoursUntilFlood(0) with the flood level 48", river.hoursUntilFlood(0), 48);
        river.setStages(0, 20, 49);
        CHECK.noSuchElement("hoursUntilFlood(0) with the flood level 49", () -> river.hoursUntilFlood(0));
        river.fill(0, 1);
        CHECK.due("hoursUntilFlood(0) with one more", river.hoursUntilFlood(0), 48);
    }

    private static void firstTimeOfAFloodThatPasses() {
        RiverReaches river = new RiverReaches();
        river.addReach(1, 60, 500);
        river.addPulse(4, 1, 50);
        river.addPulse(30, 1, 50);
        CHECK.due("hoursUntilFlood(0) of the first of two floods", river.hoursUntilFlood(0), 5);
        river.pass(6);
        CHECK.due("hoursUntilFlood(0) of the second", river.hoursUntilFlood(0), 25);
    }

    private static void neverInFlood() {
        RiverReaches river = Check.filled(10, 399);
        CHECK.noSuchElement("hoursUntilFlood(0) of a falling level", () -> river.hoursUntilFlood(0));
        CHECK.due("hour() after it", river.hour(), 0);
        CHECK.due("volume(0) after it", river.volume(0), 399);
    }

    // ---- promises 31 and 32

    private static void volumeAfter() {
        CHECK.range("volumeAfter()", 0, 48, () -> Check.row(1), RiverReaches::volumeAfter);
        CHECK.range("volumeAfterByBalance()", 0, 48, () -> Check.row(1), RiverReaches::volumeAfterByBalance);
        CHECK.range("volumeAfter() of none", 0, 48, RiverReaches::new, RiverReaches::volumeAfter);
        CHECK.range("volumeAfterByBalance() of none", 0, 48, RiverReaches::new, RiverReaches::volumeAfterByBalance);
        volumeAfterWithoutReaches();
        volumeAfterEachHour();
        volumeAfterOnTheWay();
    }

    private static void volumes(String call, RiverReaches river, int hours, int due) {
        CHECK.due("volumeAfter(" + hours + ") " + call, river.volumeAfter(hours), due);
        CHECK.due("volumeAfterByBalance(" + hours + ") " + call, river.volumeAfterByBalance(hours), due);
    }

    private static void volumeAfterWithoutReaches() {
        RiverReaches river = Check.row(1);
        river.fill(0, 500);
        river.setLateral(0, 50);
        river.addPulse(5, 24, 200);
        river.pass(6);
        river.removeLastReach();
        for (int hours : new int[] {0, 1, 48}) {
            volumes("without reaches", river, hours, 0);
        }
        CHECK.due("totalIn() after it", river.totalIn(), 500 + 6 * 50 + 200);
        CHECK.due("pendingInflow() after it", river.pendingInflow(), 23 * 200);
    }

    private static void volumeAfterEachHour() {
        RiverReaches river = Check.row(2);
        river.fill(0, 100);
        river.fill(1, 10);
        river.setLateral(1, 3);
        river.addPulse(1, 1, 40);
        volumes("now", river, 0, 110);
        volumes("of a full hour", river, 1, 110 + 3 - 2);
        volumes("with a pulse", river, 2, 111 + 43 - 6);
        int third = river.volumeAfter(3);
        river.pass(1);
        volumes("an hour later", river, 0, 111);
        volumes("an hour later", river, 1, 148);
        volumes("an hour later", river, 2, third);
    }

    private static void volumeAfterOnTheWay() {
        RiverReaches river = Check.row(8);
        for (int index = 0; index < 8; index++) {
            river.fill(index, 999);
            river.setLateral(index, 50);
            river.addPulse(index, 24, 200);
        }
        int after = river.volumeAfter(48);
        CHECK.due("volumeAfterByBalance(48) of a full river", river.volumeAfterByBalance(48), after);
        river.pass(48);
        CHECK.due("totalVolume() 48 hours later", river.totalVolume(), after);
        CHECK.due("volumeAfterByBalance(0) 48 hours later", river.volumeAfterByBalance(0), after);
    }

    private static void forecastsUseTheGatesAndPulses() {
        RiverReaches river = Check.row(3);
        river.setStages(2, 2, 3);
        river.setRule(1, 'h');
        river.setRule(0, 'r');
        river.setGate(0, 50);
        river.setGate(2, 1);
        river.fill(0, 390);
        river.fill(1, 500);
        river.addPulse(2, 5, 90);
        RiverReaches later = Check.row(3);
        later.setStages(2, 2, 3);
        later.setRule(1, 'h');
        later.setRule(0, 'r');
        later.setGate(0, 50);
        later.setGate(2, 1);
        later.fill(0, 390);
        later.fill(1, 500);
        later.addPulse(2, 5, 90);
        for (int hours = 0; hours <= 12; hours++) {
            for (int index = 0; index < 3; index++) {
                String call = "levelAfter(" + index + ", " + hours + ")";
                CHECK.due(call, river.levelAfter(index, hours), later.level(index));
            }
            CHECK.due("volumeAfter(" + hours + ")", river.volumeAfter(hours), later.totalVolume());
            later.pass(1);
        }
    }

    // ---- promises 33 to 36

    private static void totals() {
        totalsOfANewRiver();
        totalVolumeOfEightReaches();
        totalInByEachWay();
        totalOutByEachWay();
        balanceAfterEachChange();
    }

    private static void totalsOfANewRiver() {
        RiverReaches river = new RiverReaches();
        CHECK.due("totalVolume() of none", river.totalVolume(), 0);
        CHECK.due("totalIn() of none", river.totalIn(), 0);
        CHECK.due("totalOut() of none", river.totalOut(), 0);
    }

    private static void totalVolumeOfEightReaches() {
        RiverReaches river = Check.row(8);
        CHECK.due("totalVolume() of no water", river.totalVolume(), 0);
        river.fill(0, 1);
        river.fill(7, 999);
        CHECK.due("totalVolume() of the first and the last", river.totalVolume(), 1000);
    }

    private static void totalInByEachWay() {
        RiverReaches river = Check.row(2);
        river.fill(1, 999);
        CHECK.due("totalIn() by filling", river.totalIn(), 999);
        river.setLateral(1, 50);
        CHECK.due("totalIn() by a lateral inflow to come", river.totalIn(), 999);
        river.pass(1);
        CHECK.due("totalIn() by a lateral inflow", river.totalIn(), 1049);
        river.addPulse(1, 1, 200);
        CHECK.due("totalIn() by a pulse to come", river.totalIn(), 1049);
        river.pass(1);
        CHECK.due("totalIn() by a pulse", river.totalIn(), 1299);
        river.removeLastReach();
        CHECK.due("totalIn() with a removed reach", river.totalIn(), 1299);
    }

    private static void totalOutByEachWay() {
        RiverReaches river = Check.row(2);
        river.fill(0, 100);
        river.fill(1, 100);
        CHECK.due("totalOut() of filled reaches", river.totalOut(), 0);
        river.pass(1);
        CHECK.due("totalOut() out of the last reach", river.totalOut(), 20);
        river.removeLastReach();
        CHECK.due("totalOut() with a removed reach", river.totalOut(), 120);
        river.pass(1);
        CHECK.due("totalOut() out of the last reach then", river.totalOut(), 136);
    }

    private static void balance(String when, RiverReaches river) {
        CHECK.due("totalOut() " + when, river.totalOut(), river.totalIn() - river.totalVolume());
    }

    private static void balanceAfterEachChange() {
        RiverReaches river = Check.row(8);
        balance("of a dry river", river);
        for (int index = 0; index < 8; index++) {
            river.fill(index, 999 - index);
            river.setLateral(index, 50 - index);
            river.addPulse(index, 24, 200);
        }
        balance("of a filled river", river);
        river.pass(48);
        balance("after 48 hours", river);
        river.undo();
        balance("after undo()", river);
        river.saveSnapshot();
        river.pass(7);
        river.removeLastReach();
        balance("without a removed reach", river);
        CHECK.failedCommand(river, "fill 0 9;pass 3;cut;cut;fill 9 9", 4, 6, 0);
        balance("after a failed text", river);
        river.restoreSnapshot();
        balance("after restoreSnapshot()", river);
        for (int left = 8; left > 0; left--) {
            river.removeLastReach();
            balance("with reaches left: " + (left - 1), river);
        }
    }

    /** Nearly all of the calls that an object has, each for as much water as it can bring. */
    private static void greatestVolumes() {
        RiverReaches river = new RiverReaches();
        for (int index = 0; index < 8; index++) {
            river.addReach(1, 60, 500);
            river.setLateral(index, 50);
            river.addPulse(index, 24, 200);
        }
        river.setGate(7, 0);
        int passes = 470;
        for (int i = 0; i < passes; i++) {
            river.pass(48);
        }
        int in = passes * 48 * 400 + 8 * 24 * 200;
        CHECK.due("totalIn() of all hours", river.totalIn(), in);
        CHECK.due("totalOut() behind a closed gate", river.totalOut(), 0);
        CHECK.due("totalVolume() behind a closed gate", river.totalVolume(), in);
        int volume = river.volume(7);
        CHECK.due("volume(7) is nearly all of it", volume > in - 10000, true);
        CHECK.due("level(7)", river.level(7), volume);
        CHECK.due("isFlooded(7)", river.isFlooded(7), true);
        river.setGate(7, 100);
        CHECK.due("outflow(7)", river.outflow(7), 500);
        CHECK.due("levelAfter(7, 1)", river.levelAfter(7, 1), volume + river.inflow(7) - 500);
    }

    // ---- promises 37 and 38

    private static void meanLevel() {
        CHECK.throwsDue("meanLevel() of none", ArithmeticException.class, () -> new RiverReaches().meanLevel());
        CHECK.due("meanLevel() of one dry reach", Check.row(1).meanLevel(), 0);
        CHECK.due("meanLevel() of eight dry reaches", Check.row(8).meanLevel(), 0);
        RiverReaches river = Check.row(8);
        river.fill(7, 19);
        CHECK.due("meanLevel() of one level in eight", river.meanLevel(), 0.125);
        river.fill(0, 20);
        CHECK.due("meanLevel() of three levels in eight", river.meanLevel(), 0.375);
        RiverReaches three = Check.row(3);
        three.fill(1, 10);
        CHECK.due("meanLevel() of a third", three.meanLevel(), 1.0 / 3.0);
        three.fill(2, 999);
        CHECK.due("meanLevel() of 1 and 99 in three", three.meanLevel(), 100.0 / 3.0);
        three.removeLastReach();
        CHECK.due("meanLevel() of a half, without the removed reach", three.meanLevel(), 0.5);
        three.removeLastReach();
        three.removeLastReach();
        CHECK.throwsDue("meanLevel() of none any more", ArithmeticException.class, three::meanLevel);
    }

    private static void floodedShare() {
        CHECK.throwsDue("floodedShare() of none", ArithmeticException.class, () -> new RiverReaches().floodedShare());
        CHECK.due("floodedShare() of one dry reach", Check.row(1).floodedShare(), 0);
        CHECK.due("floodedShare() of one flooded reach", flooded(1).floodedShare(), 1);
        CHECK.due("floodedShare() of eight flooded reaches", flooded(8).floodedShare(), 1);
        RiverReaches river = Check.row(3);
        river.fill(2, 399);
        CHECK.due("floodedShare() just below the flood", river.floodedShare(), 0);
        river.fill(2, 1);
        CHECK.due("floodedShare() of a third, as a float", river.floodedShare(), 1f / 3f);
        river.fill(0, 400);
        CHECK.due("floodedShare() of two thirds, as a float", river.floodedShare(), 2f / 3f);
        river.removeLastReach();
        CHECK.due("floodedShare() of a half, without the removed reach", river.floodedShare(), 0.5f);
        river.removeLastReach();
        river.removeLastReach();
        CHECK.throwsDue("floodedShare() of none any more", ArithmeticException.class, river::floodedShare);
    }
}
