/** Runs of calls that mix the promises; the answers were worked out by hand from the document. */
public final class MixedRunsTest {
    private static final Check CHECK = new Check("MixedRunsTest");

    public static void main(String[] args) {
        heldFlood();
        pulsesAndForecasts();
        whatNothingTakesBack();
        releasedReach();
        CHECK.finish();
    }

    private static void volumes(RiverReaches river, String when, int hour, int... volumes) {
        CHECK.due(when + ": hour()", river.hour(), hour);
        CHECK.due(when + ": reachCount()", river.reachCount(), volumes.length);
        int sum = 0;
        for (int i = 0; i < volumes.length; i++) {
            CHECK.due(when + ": volume(" + i + ")", river.volume(i), volumes[i]);
            sum += volumes[i];
        }
        CHECK.due(when + ": totalVolume()", river.totalVolume(), sum);
        CHECK.due(when + ": totalIn() less totalOut()", river.totalIn() - river.totalOut(), sum);
    }

    /** The upper gate holds water back while the lower reach is in flood. */
    private static void heldFlood() {
        RiverReaches river = new RiverReaches();
        river.addReach(10, 50, 100);
        river.addReach(10, 50, 100);
        CHECK.due("rule and stages", Check.run(river, "rule 0 h;stages 1 5 10"), 2);
        CHECK.due("fill(0, 200)", river.fill(0, 200), 20);
        CHECK.due("the first hour", river.pass(1), 0);
        volumes(river, "the first hour", 1, 100, 100);
        CHECK.due("reach 1 rose", river.alarms(), 1);
        CHECK.due("the held gate", river.opening(0), 50);
        CHECK.due("the held outflow", river.inflow(1), 50);
        CHECK.due("the second hour", river.pass(1), 50);
        volumes(river, "the second hour", 2, 50, 100);
        CHECK.due("writeReach(0)", Check.line(river, river.writeReach(0)), "0=50/10@5 h50");

        CHECK.due("undo of the second hour", river.undo(), 5);
        volumes(river, "undo of the second hour", 1, 100, 100);
        CHECK.due("undo of the first hour", river.undo(), 4);
        volumes(river, "undo of the first hour", 0, 200, 0);
        CHECK.due("alarms() of no hour", river.alarms(), 0);
        CHECK.due("the line is still there", Check.line(river, 13), "0=50/10@5 h50");
        CHECK.due("both hours at once", river.pass(2), 50);
        volumes(river, "both hours at once", 2, 50, 100);

        CHECK.denied(river, "the present rule", 4, 'h', () -> river.setRule(0, 'h'));
        CHECK.failedCommand(river, "gate 0 40;gate 0 40", 1, 4, 40);
        CHECK.due("the setting is not changed", river.opening(0), 50);
        CHECK.due("what can be undone", river.undoCount(), 5);
        CHECK.due("gate and hour", Check.run(river, "gate 0 40;pass 1"), 2);
        volumes(river, "gate and hour", 3, 30, 70);
        CHECK.due("no longer held", river.opening(0), 40);
        CHECK.due("totalOut()", river.totalOut(), 100);
        heldFloodIsCut(river);
    }

    private static void heldFloodIsCut(RiverReaches river) {
        CHECK.due("saveSnapshot()", river.saveSnapshot(), 2);
        CHECK.failedCommand(river, "cut;cut;cut", 2, 3, 3);
        volumes(river, "no reach was cut", 3, 30, 70);
        CHECK.due("two cuts", Check.run(river, "cut;cut"), 2);
        volumes(river, "two cuts", 3);
        CHECK.due("all water has left", river.totalOut(), 200);
        CHECK.due("volumeAfter(48)", river.volumeAfter(48), 0);
        CHECK.due("writeRiver()", river.writeRiver(), 0);
        CHECK.denied(river, "an hour without reaches", 3, 3, () -> river.pass(1));
        CHECK.due("undo of both cuts", river.undo(), 6);
        volumes(river, "undo of both cuts", 3, 30, 70);
        CHECK.due("fill(1, 30)", river.fill(1, 30), 10);
        CHECK.due("held again", river.opening(0), 20);
        CHECK.due("restoreSnapshot()", river.restoreSnapshot(), 2);
        volumes(river, "restoreSnapshot()", 3, 30, 70);
        CHECK.illegalState("nothing to undo", river::undo);
        CHECK.due("levelAfter(1, 1)", river.levelAfter(1, 1), 5);
        CHECK.due("volumeAfter(1)", river.volumeAfter(1), 65);
        CHECK.due("volumeAfterByBalance(1)", river.volumeAfterByBalance(1), 65);
        CHECK.due("reachByLevel(0)", river.reachByLevel(0), 1);
    }

    private static void pulsesAndForecasts() {
        RiverReaches river = new RiverReaches();
        river.addReach(1, 60, 500);
        CHECK.due("addPulse(0, 2, 100)", river.addPulse(0, 2, 100), 1);
        CHECK.due("addPulse(1, 1, 50)", river.addPulse(1, 1, 50), 2);
        CHECK.due("setLateral(0, 3)", river.setLateral(0, 3), 0);
        CHECK.due("inflow(0)", river.inflow(0), 103);
        CHECK.due("hoursUntilFlood(0)", river.hoursUntilFlood(0), 1);
        CHECK.due("levelAfter(0, 2)", river.levelAfter(0, 2), 195);
        CHECK.due("levelAfter(0, 3)", river.levelAfter(0, 3), 81);
        CHECK.due("peakLevel(0, 48)", river.peakLevel(0, 48), 195);
        CHECK.due("volumeAfterByBalance(2)", river.volumeAfterByBalance(2), 195);
        volumes(river, "forecasts change nothing", 0, 0);

        CHECK.due("the first hour", river.pass(1), 0);
        CHECK.due("an alarm from 0 to 2", river.alarms(), 1);
        CHECK.due("pulseCount()", river.pulseCount(), 2);
        CHECK.due("pendingInflow()", river.pendingInflow(), 150);
        CHECK.failedCommand(river, "pulse 0 1 1", 0, 2, 1);
        CHECK.due("the second hour", river.pass(1), 61);
        volumes(river, "the second hour", 2, 195);
        CHECK.due("totalIn()", river.totalIn(), 256);
        CHECK.due("no pulse is pending", river.pulseCount(), 0);
        CHECK.due("undo of the second hour", river.undo(), 5);
        CHECK.due("both pulses are back", river.pendingInflowByPulses(), 150);
        for (int count = 3; count <= 8; count++) {
            CHECK.due("pulse " + count, river.addPulse(1, 24, 200), count);
        }
        CHECK.denied(river, "a ninth pulse", 1, 8, () -> river.addPulse(1, 24, 200));
        CHECK.denied(river, "a ninth pulse of the past", 2, 1, () -> river.addPulse(0, 24, 200));
        CHECK.due("headInflow(1)", river.headInflow(1), 1350);
        for (int left = 7; left >= 0; left--) {
            CHECK.due("undo down to " + left, river.undo(), left);
        }
        volumes(river, "eight undos", 0, 0);
        CHECK.due("pulseCount() after eight undos", river.pulseCount(), 2);
        CHECK.due("inflow(0) after eight undos", river.inflow(0), 100);
        CHECK.illegalState("a ninth undo", river::undo);
    }

    /** The text buffer, the fault position, the output line and the latest denial stay. */
    private static void whatNothingTakesBack() {
        RiverReaches river = new RiverReaches();
        Check.run(river, "reach 10 20 30");
        Check.feed(river, "fill 0 5");
        CHECK.due("saveSnapshot()", river.saveSnapshot(), 1);
        CHECK.due("setGate(0, 10)", river.setGate(0, 10), 100);
        CHECK.due("restoreSnapshot()", river.restoreSnapshot(), 1);
        CHECK.due("the gate is restored", river.opening(0), 100);
        CHECK.due("the buffer is not emptied", river.feed('0'), 9);
        CHECK.due("fill 0 50", river.execute(), 1);
        volumes(river, "fill 0 50", 0, 50);
        CHECK.due("undo of a text", river.undo(), 0);
        volumes(river, "undo of a text", 0, 0);

        CHECK.noSuchElement("no fault yet", river::faultPosition);
        CHECK.fault(river, "fill 0", 6);
        river.restoreSnapshot();
        CHECK.due("a good text", Check.run(river, "fill 0 1"), 1);
        river.undo();
        CHECK.due("the fault position stays", river.faultPosition(), 6);
        CHECK.fault(river, "", 0);

        CHECK.noSuchElement("no denial yet", river::denial);
        CHECK.failedCommand(river, "fill 0 1;fill 1 1", 1, 6, 0);
        river.restoreSnapshot();
        CHECK.due("the denial stays", river.denial(), 5);
        CHECK.due("its cause stays", river.denialCause(), 6);
        CHECK.denied(river, "the present setting", 4, 100, () -> river.setGate(0, 100));

        CHECK.due("writeRiver()", Check.line(river, river.writeRiver()), "0");
        CHECK.due("fill(0, 400)", river.fill(0, 400), 40);
        CHECK.due("the line stays", Check.line(river, 1), "0");
        CHECK.due("writeRiver() of a flood", Check.line(river, river.writeRiver()), "40!");
        river.undo();
        CHECK.due("the line stays after undo", Check.line(river, 3), "40!");
        CHECK.outOfBounds("beyond the line", () -> river.lineCharacter(3));
    }

    /** The closed gate is released by the flood; a reach that is added again knows nothing of the one before. */
    private static void releasedReach() {
        RiverReaches river = new RiverReaches();
        river.addReach(5, 5, 10);
        CHECK.due("four settings", Check.run(river, "stages 0 1 2;gate 0 0;rule 0 r;lateral 0 5"), 4);
        CHECK.due("closed", river.opening(0), 0);
        CHECK.due("to the warning level", river.pass(1), 0);
        CHECK.due("the first alarm", river.alarms(), 1);
        CHECK.due("still closed", river.opening(0), 0);
        CHECK.due("room below the flood", river.roomBelowFlood(0), 4);
        CHECK.due("to the flood level", river.pass(1), 0);
        CHECK.due("the second alarm", river.alarms(), 2);
        CHECK.due("released", river.opening(0), 100);
        CHECK.due("three hours more", river.pass(3), 1);
        volumes(river, "three hours more", 5, 24);
        CHECK.due("no third alarm", river.alarms(), 2);

        CHECK.due("removeLastReach()", river.removeLastReach(), 24);
        volumes(river, "removeLastReach()", 5);
        CHECK.due("totalOut()", river.totalOut(), 25);
        CHECK.due("addReach(2, 60, 500)", river.addReach(2, 60, 500), 0);
        CHECK.due("writeReach(0)", Check.line(river, river.writeReach(0)), "0=0/2@0 f100");
        CHECK.due("lateral(0)", river.lateral(0), 0);
        CHECK.due("room of the new reach", river.roomBelowFlood(0), 79);
        CHECK.due("undo of the new reach", river.undo(), 6);
        volumes(river, "undo of the new reach", 5);
        CHECK.due("undo of the removal", river.undo(), 5);
        volumes(river, "undo of the removal", 5, 24);
        CHECK.due("writeReach(0) of old", Check.line(river, river.writeReach(0)), "0=24/5@4!! r100");
        CHECK.due("totalOut() of old", river.totalOut(), 1);
        CHECK.due("meanLevel()", river.meanLevel(), 4);
        CHECK.due("floodedShare()", river.floodedShare(), 1);
        CHECK.noSuchElement("room in a flood", () -> river.roomBelowFlood(0));
        CHECK.noSuchElement("reachByLevel(1)", () -> river.reachByLevel(1));
    }
}
