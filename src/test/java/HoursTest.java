/** Promises 21 to 38: pulses, hours, forecasts, totals and statistics. */
public final class HoursTest {
    private static final Check CHECK = new Check("HoursTest");

    public static void main(String[] args) {
        addPulse();
        addPulseRefused();
        pulsesEnd();
        pendingInflow();
        passRefused();
        passOneHour();
        flowsAreOfTheBeginning();
        alarms();
        levelAfter();
        peakLevel();
        hoursUntilFlood();
        hoursUntilFloodAtTheLimit();
        volumeAfter();
        volumeAfterOfOneReach();
        forecastsWithoutReaches();
        forecastsChangeNothing();
        totals();
        statistics();
        CHECK.finish();
    }

    private static void addPulse() {
        RiverReaches river = new RiverReaches();
        CHECK.due("addPulse(0, 1, 1)", river.addPulse(0, 1, 1), 1);
        CHECK.due("addPulse(999, 24, 200)", river.addPulse(999, 24, 200), 2);
        CHECK.due("addPulse(998, 3, 7)", river.addPulse(998, 3, 7), 3);
        CHECK.due("pulseCount()", river.pulseCount(), 3);
        CHECK.due("headInflow(0)", river.headInflow(0), 1);
        CHECK.due("headInflow(1)", river.headInflow(1), 0);
        CHECK.due("headInflow(997)", river.headInflow(997), 0);
        CHECK.due("headInflow(998)", river.headInflow(998), 7);
        CHECK.due("headInflow(999)", river.headInflow(999), 207);
        CHECK.due("headInflow(1000)", river.headInflow(1000), 207);
        CHECK.due("headInflow(1001)", river.headInflow(1001), 200);
        CHECK.due("headInflow(1022)", river.headInflow(1022), 200);
        CHECK.due("headInflow(1023)", river.headInflow(1023), 0);
        CHECK.due("headInflow(greatest int)", river.headInflow(Integer.MAX_VALUE), 0);
        CHECK.illegal("headInflow(-1)", () -> river.headInflow(-1));
        CHECK.illegal("headInflow(least int)", () -> river.headInflow(Integer.MIN_VALUE));
    }

    private static void addPulseRefused() {
        RiverReaches river = new RiverReaches();
        river.addReach(10, 10, 10);
        CHECK.illegal("addPulse(-1, 1, 1)", () -> river.addPulse(-1, 1, 1));
        CHECK.illegal("addPulse(1000, 1, 1)", () -> river.addPulse(1000, 1, 1));
        CHECK.illegal("addPulse(0, 0, 1)", () -> river.addPulse(0, 0, 1));
        CHECK.illegal("addPulse(0, 25, 1)", () -> river.addPulse(0, 25, 1));
        CHECK.illegal("addPulse(0, 1, 0)", () -> river.addPulse(0, 1, 0));
        CHECK.illegal("addPulse(0, 1, 201)", () -> river.addPulse(0, 1, 201));
        river.pass(5);
        CHECK.denied(river, "addPulse(4, 24, 1) at hour 5", 2, 5, () -> river.addPulse(4, 24, 1));
        CHECK.illegal("addPulse(4, 25, 1) at hour 5", () -> river.addPulse(4, 25, 1));
        for (int count = 1; count <= 8; count++) {
            CHECK.due("addPulse(5, 1, 1)", river.addPulse(5, 1, 1), count);
        }
        CHECK.denied(river, "ninth addPulse", 1, 8, () -> river.addPulse(5, 1, 1));
        CHECK.denied(river, "ninth addPulse of the past", 2, 5, () -> river.addPulse(4, 1, 1));
        CHECK.illegal("ninth addPulse out of range", () -> river.addPulse(5, 1, 0));
        CHECK.due("pulseCount()", river.pulseCount(), 8);
        river.pass(1);
        CHECK.due("pulseCount() when they have passed", river.pulseCount(), 0);
        CHECK.due("addPulse(6, 1, 1)", river.addPulse(6, 1, 1), 1);
    }

    private static void pulsesEnd() {
        RiverReaches river = new RiverReaches();
        river.addReach(50, 5, 500);
        river.addPulse(0, 2, 10);
        river.addPulse(1, 3, 20);
        river.addPulse(3, 1, 40);
        int[] pending = {3, 3, 2, 2, 0};
        int[] head = {10, 30, 20, 60, 0};
        for (int hour = 0; hour < pending.length; hour++) {
            CHECK.due("pulseCount() at hour " + hour, river.pulseCount(), pending[hour]);
            CHECK.due("headInflow() at hour " + hour, river.headInflow(hour), head[hour]);
            CHECK.due("inflow(0) at hour " + hour, river.inflow(0), head[hour]);
            river.pass(1);
        }
        CHECK.illegal("headInflow(4) at hour 5", () -> river.headInflow(4));
        CHECK.due("headInflow(5) at hour 5", river.headInflow(5), 0);
        CHECK.due("totalIn() by head inflow", river.totalIn(), 120);
    }

    private static void pendingInflow() {
        RiverReaches river = new RiverReaches();
        river.addPulse(2, 3, 50);
        river.addPulse(999, 24, 200);
        CHECK.due("pendingInflow()", river.pendingInflow(), 150 + 4800);
        CHECK.due("pendingInflowByPulses()", river.pendingInflowByPulses(), 150 + 4800);
        river.addReach(10, 10, 10);
        int[] left = {150, 150, 150, 100, 50, 0, 0};
        for (int hour = 0; hour < left.length; hour++) {
            CHECK.due("pendingInflow() at hour " + hour, river.pendingInflow(), left[hour] + 4800);
            CHECK.due("pendingInflowByPulses() at hour " + hour, river.pendingInflowByPulses(), left[hour] + 4800);
            river.pass(1);
        }
    }

    private static void passRefused() {
        RiverReaches river = new RiverReaches();
        CHECK.illegal("pass(0)", () -> river.pass(0));
        CHECK.illegal("pass(49)", () -> river.pass(49));
        CHECK.illegal("pass(-1)", () -> river.pass(-1));
        CHECK.denied(river, "pass(1) without reaches", 3, 0, () -> river.pass(1));
        CHECK.due("hour() after refusals", river.hour(), 0);
        river.addReach(10, 10, 10);
        CHECK.due("pass(48)", river.pass(48), 0);
        CHECK.due("hour()", river.hour(), 48);
        river.removeLastReach();
        CHECK.denied(river, "pass(48) without reaches", 3, 48, () -> river.pass(48));
        CHECK.illegal("pass(49) without reaches", () -> river.pass(49));
    }

    private static void passOneHour() {
        RiverReaches river = new RiverReaches();
        river.addReach(10, 20, 30);
        river.addReach(5, 50, 100);
        river.setLateral(0, 1);
        river.setLateral(1, 4);
        river.fill(0, 300);
        river.fill(1, 60);
        river.addPulse(1, 1, 9);
        CHECK.due("pass(1)", river.pass(1), 30);
        CHECK.due("volume(0)", river.volume(0), 271);
        CHECK.due("volume(1)", river.volume(1), 64);
        CHECK.due("hour()", river.hour(), 1);
        CHECK.due("pass(2)", river.pass(2), 32 + 33);
        CHECK.due("volume(0)", river.volume(0), 271 + 10 - 30 + 1 - 30);
        CHECK.due("volume(1)", river.volume(1), 64 + 34 - 32 + 34 - 33);
        CHECK.due("hour()", river.hour(), 3);
        CHECK.due("totalIn()", river.totalIn(), 360 + 15 + 9);
        CHECK.due("totalOut()", river.totalOut(), 95);
        CHECK.due("totalVolume()", river.totalVolume(), 384 - 95);
    }

    /** The gate above reacts to the flood below only in the hour after the one that brings it. */
    private static void flowsAreOfTheBeginning() {
        RiverReaches river = new RiverReaches();
        river.addReach(50, 50, 100);
        river.addReach(10, 5, 10);
        river.setRule(0, 'h');
        river.fill(0, 999);
        river.fill(1, 399);
        CHECK.due("pass(1) into the flood", river.pass(1), 10);
        CHECK.due("volume(0)", river.volume(0), 899);
        CHECK.due("volume(1)", river.volume(1), 489);
        CHECK.due("pass(1) on hold", river.pass(1), 10);
        CHECK.due("volume(0)", river.volume(0), 849);
        CHECK.due("volume(1)", river.volume(1), 529);
    }

    private static void alarms() {
        RiverReaches river = new RiverReaches();
        river.addReach(1, 60, 500);
        river.addReach(1, 5, 1);
        river.addReach(1, 5, 1);
        river.addPulse(0, 1, 25);
        river.pass(1);
        CHECK.due("alarms() by a warning", river.alarms(), 1);
        river.pass(1);
        CHECK.due("alarms() by a falling level", river.alarms(), 1);
        river.fill(0, 100);
        CHECK.due("alarms() by filling", river.alarms(), 1);
        river.pass(1);
        CHECK.due("alarms() by a jump from 0 to 2", river.alarms(), 2);
        river.undo();
        CHECK.due("alarms() undone", river.alarms(), 1);
        RiverReaches two = new RiverReaches();
        two.addReach(1, 5, 1);
        two.addReach(1, 5, 1);
        two.setLateral(0, 50);
        two.setLateral(1, 20);
        two.pass(1);
        CHECK.due("alarms() of two reaches in an hour", two.alarms(), 2);
        two.pass(1);
        CHECK.due("alarms() from 2 to 2 and from 1 to 2", two.alarms(), 3);
        two.pass(1);
        CHECK.due("alarms() from 2 to 2 twice", two.alarms(), 3);
    }

    private static RiverReaches rising() {
        RiverReaches river = new RiverReaches();
        river.addReach(10, 20, 30);
        river.addReach(5, 50, 100);
        river.fill(0, 300);
        river.setLateral(1, 4);
        river.addPulse(2, 3, 50);
        return river;
    }

    private static void levelAfter() {
        RiverReaches river = rising();
        CHECK.due("levelAfter(0, 0)", river.levelAfter(0, 0), 30);
        CHECK.due("levelAfter(0, 1)", river.levelAfter(0, 1), 27);
        CHECK.due("levelAfter(0, 2)", river.levelAfter(0, 2), 24);
        CHECK.due("levelAfter(0, 3)", river.levelAfter(0, 3), 26);
        CHECK.due("levelAfter(1, 3)", river.levelAfter(1, 3), 12);
        int after = river.levelAfter(1, 48);
        river.pass(48);
        CHECK.due("levelAfter(1, 48)", after, river.level(1));
        CHECK.illegal("levelAfter(0, -1)", () -> river.levelAfter(0, -1));
        CHECK.illegal("levelAfter(0, 49)", () -> river.levelAfter(0, 49));
        CHECK.outOfBounds("levelAfter(2, 49)", () -> river.levelAfter(2, 49));
        CHECK.outOfBounds("levelAfter(-1, 0)", () -> river.levelAfter(-1, 0));
    }

    private static void peakLevel() {
        RiverReaches river = rising();
        CHECK.due("peakLevel(0, 0)", river.peakLevel(0, 0), 30);
        CHECK.due("peakLevel(0, 48), now", river.peakLevel(0, 48), 30);
        CHECK.due("peakLevel(1, 0)", river.peakLevel(1, 0), 0);
        CHECK.due("peakLevel(1, 1), at the end", river.peakLevel(1, 1), 6);
        CHECK.due("peakLevel(1, 2), at the end", river.peakLevel(1, 2), 10);
        int peak = 0;
        for (int hours = 0; hours <= 48; hours++) {
            peak = Math.max(peak, river.levelAfter(1, hours));
        }
        CHECK.due("peakLevel(1, 48), on the way", river.peakLevel(1, 48), peak);
        CHECK.due("the level at the end is lower", river.levelAfter(1, 48) < peak, true);
        CHECK.illegal("peakLevel(0, -1)", () -> river.peakLevel(0, -1));
        CHECK.illegal("peakLevel(0, 49)", () -> river.peakLevel(0, 49));
        CHECK.outOfBounds("peakLevel(2, -1)", () -> river.peakLevel(2, -1));
        CHECK.outOfBounds("peakLevel(-1, 1)", () -> river.peakLevel(-1, 1));
    }

    private static void hoursUntilFlood() {
        RiverReaches river = rising();
        CHECK.noSuchElement("hoursUntilFlood(0), never", () -> river.hoursUntilFlood(0));
        CHECK.outOfBounds("hoursUntilFlood(2)", () -> river.hoursUntilFlood(2));
        CHECK.outOfBounds("hoursUntilFlood(-1)", () -> river.hoursUntilFlood(-1));
        river.setStages(1, 9, 10);
        CHECK.due("hoursUntilFlood(1)", river.hoursUntilFlood(1), 2);
        river.setStages(0, 29, 30);
        CHECK.due("hoursUntilFlood(0), now", river.hoursUntilFlood(0), 0);
    }

    private static void hoursUntilFloodAtTheLimit() {
        RiverReaches river = new RiverReaches();
        river.addReach(1, 5, 1);
        river.setGate(0, 0);
        river.setLateral(0, 1);
        river.setStages(0, 1, 48);
        CHECK.due("hoursUntilFlood(0) after 48", river.hoursUntilFlood(0), 48);
        river.setStages(0, 1, 49);
        CHECK.noSuchElement("hoursUntilFlood(0) after 49", () -> river.hoursUntilFlood(0));
        river.pass(1);
        CHECK.due("hoursUntilFlood(0) an hour later", river.hoursUntilFlood(0), 48);
    }

    private static void volumeAfter() {
        RiverReaches river = rising();
        CHECK.due("volumeAfter(0)", river.volumeAfter(0), 300);
        CHECK.due("volumeAfterByBalance(0)", river.volumeAfterByBalance(0), 300);
        CHECK.due("volumeAfter(2)", river.volumeAfter(2), 300 + 8 - 17);
        CHECK.due("volumeAfterByBalance(2)", river.volumeAfterByBalance(2), 300 + 8 - 17);
        CHECK.due("volumeAfter(10)", river.volumeAfter(10), 218);
        CHECK.due("volumeAfterByBalance(10)", river.volumeAfterByBalance(10), 218);
        int later = river.volumeAfter(48);
        CHECK.due("volumeAfterByBalance(48)", river.volumeAfterByBalance(48), later);
        river.pass(48);
        CHECK.due("volumeAfter(48)", later, river.totalVolume());
        CHECK.illegal("volumeAfter(-1)", () -> river.volumeAfter(-1));
        CHECK.illegal("volumeAfter(49)", () -> river.volumeAfter(49));
        CHECK.illegal("volumeAfterByBalance(-1)", () -> river.volumeAfterByBalance(-1));
        CHECK.illegal("volumeAfterByBalance(49)", () -> river.volumeAfterByBalance(49));
    }

    private static void volumeAfterOfOneReach() {
        RiverReaches river = new RiverReaches();
        river.addReach(10, 50, 40);
        river.setLateral(0, 3);
        river.fill(0, 100);
        CHECK.due("pass(1)", river.pass(1), 40);
        river.addPulse(2, 2, 20);
        CHECK.due("volumeAfter(0)", river.volumeAfter(0), 63);
        CHECK.due("volumeAfterByBalance(0)", river.volumeAfterByBalance(0), 63);
        CHECK.due("volumeAfter(1)", river.volumeAfter(1), 63 - 31 + 3);
        CHECK.due("volumeAfterByBalance(1)", river.volumeAfterByBalance(1), 63 - 31 + 3);
        CHECK.due("volumeAfter(2)", river.volumeAfter(2), 35 - 17 + 23);
        CHECK.due("volumeAfterByBalance(2)", river.volumeAfterByBalance(2), 35 - 17 + 23);
        CHECK.due("levelAfter(0, 2)", river.levelAfter(0, 2), 4);
    }

    private static void forecastsWithoutReaches() {
        RiverReaches river = new RiverReaches();
        river.addPulse(0, 24, 200);
        CHECK.due("volumeAfter(48) without reaches", river.volumeAfter(48), 0);
        CHECK.due("volumeAfterByBalance(48) without reaches", river.volumeAfterByBalance(48), 0);
        CHECK.illegal("volumeAfter(49) without reaches", () -> river.volumeAfter(49));
        CHECK.illegal("volumeAfterByBalance(-1) without reaches", () -> river.volumeAfterByBalance(-1));
        CHECK.outOfBounds("levelAfter(0, 49) without reaches", () -> river.levelAfter(0, 49));
        CHECK.outOfBounds("peakLevel(0, 0) without reaches", () -> river.peakLevel(0, 0));
        CHECK.outOfBounds("hoursUntilFlood(0) without reaches", () -> river.hoursUntilFlood(0));
    }

    private static void forecastsChangeNothing() {
        RiverReaches river = rising();
        String before = Check.state(river);
        river.levelAfter(0, 48);
        river.peakLevel(1, 48);
        river.volumeAfter(48);
        river.volumeAfterByBalance(48);
        CHECK.noSuchElement("hoursUntilFlood(0)", () -> river.hoursUntilFlood(0));
        CHECK.due("the state after forecasts", Check.state(river), before);
    }

    private static void totals() {
        RiverReaches river = new RiverReaches();
        river.addReach(10, 50, 500);
        river.addReach(10, 50, 500);
        river.fill(0, 100);
        river.setLateral(0, 3);
        river.setLateral(1, 5);
        river.addPulse(0, 1, 200);
        CHECK.due("totalIn() before the hour", river.totalIn(), 100);
        river.pass(1);
        CHECK.due("totalIn()", river.totalIn(), 308);
        CHECK.due("totalOut()", river.totalOut(), 0);
        CHECK.due("totalVolume()", river.totalVolume(), 308);
        river.pass(1);
        CHECK.due("totalIn()", river.totalIn(), 316);
        CHECK.due("totalOut()", river.totalOut(), 27);
        int removed = river.removeLastReach();
        CHECK.due("totalOut() with a removed reach", river.totalOut(), 27 + removed);
        CHECK.due("the balance", river.totalOut(), river.totalIn() - river.totalVolume());
        river.removeLastReach();
        CHECK.due("totalOut() of an empty river", river.totalOut(), 316);
        CHECK.due("totalVolume() of an empty river", river.totalVolume(), 0);
    }

    private static void statistics() {
        RiverReaches river = new RiverReaches();
        CHECK.throwsDue("meanLevel() of none", ArithmeticException.class, river::meanLevel);
        CHECK.throwsDue("floodedShare() of none", ArithmeticException.class, river::floodedShare);
        river.addReach(10, 50, 500);
        CHECK.due("meanLevel()", river.meanLevel(), 0);
        CHECK.due("floodedShare()", river.floodedShare(), 0);
        river.addReach(10, 50, 500);
        river.addReach(7, 50, 500);
        river.fill(0, 409);
        river.fill(2, 20);
        CHECK.due("meanLevel() of rounded levels", river.meanLevel(), 42.0 / 3.0);
        CHECK.due("floodedShare()", river.floodedShare(), 1f / 3f);
        river.fill(2, 6);
        river.fill(1, 400);
        CHECK.due("meanLevel() with a fraction", river.meanLevel(), 83.0 / 3.0);
        CHECK.due("floodedShare()", river.floodedShare(), 2f / 3f);
        river.fill(2, 300);
        CHECK.due("floodedShare() of all", river.floodedShare(), 1);
        river.removeLastReach();
        river.removeLastReach();
        CHECK.due("meanLevel() without the removed reaches", river.meanLevel(), 40);
        CHECK.due("floodedShare() without the removed reaches", river.floodedShare(), 1);
        CHECK.due("totalVolume() without the removed reaches", river.totalVolume(), 409);
    }
}
