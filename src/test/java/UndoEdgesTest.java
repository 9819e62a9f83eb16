/** Promises 45 to 52 and the terms 'Denials' and 'Undo': a test for each sentence that names an edge. */
public final class UndoEdgesTest {
    private static final Check CHECK = new Check("UndoEdgesTest");

    public static void main(String[] args) {
        denials();
        undo();
        changes();
        undoCount();
        snapshots();
        CHECK.finish();
    }

    // ---- promises 45 to 48

    private static void denials() {
        nothingWasDeniedYet();
        otherExceptionsAreNoDenials();
        onlyDenialFiveHasACause();
        latestDenialIsKept();
        nextDenialReplacesIt();
        failedCommandIsNoDenialOfItsOwn();
        detailsOfTheFourReasons();
    }

    private static void noDenial(String when, RiverReaches river) {
        CHECK.noSuchElement("denial() " + when, river::denial);
        CHECK.noSuchElement("denialDetail() " + when, river::denialDetail);
        CHECK.noSuchElement("denialCause() " + when, river::denialCause);
        CHECK.noSuchElement("denialCauseDetail() " + when, river::denialCauseDetail);
    }

    private static void nothingWasDeniedYet() {
        noDenial("of a new river", new RiverReaches());
        RiverReaches river = Check.row(8);
        river.pass(9);
        Check.run(river, "cut;rule 0 h");
        noDenial("of a river without a denial", river);
    }

    private static void otherExceptionsAreNoDenials() {
        RiverReaches river = new RiverReaches();
        CHECK.illegal("addReach(0, 5, 1)", () -> river.addReach(0, 5, 1));
        CHECK.outOfBounds("fill(0, 1)", () -> river.fill(0, 1));
        CHECK.illegalState("undo()", river::undo);
        CHECK.illegalState("restoreSnapshot()", river::restoreSnapshot);
        CHECK.noSuchElement("reachByLevel(0)", () -> river.reachByLevel(0));
        CHECK.throwsDue("meanLevel()", ArithmeticException.class, river::meanLevel);
        CHECK.fault(river, "cut;", 4);
        noDenial("after other exceptions", river);
    }

    private static void onlyDenialFiveHasACause() {
        RiverReaches river = Check.row(1);
        CHECK.denied(river, "setGate(0, 100)", 4, 100, () -> river.setGate(0, 100));
        CHECK.failedCommand(river, "gate 0 100", 0, 4, 100);
        CHECK.denied(river, "setLateral(0, 0)", 4, 0, () -> river.setLateral(0, 0));
        CHECK.failedCommand(river, "fill 0 0", 0, 6, 0);
    }

    private static void latestDenialIsKept() {
        RiverReaches river = Check.row(8);
        CHECK.failedCommand(river, "fill 0 1;reach 1 5 1", 1, 1, 8);
        river.fill(0, 9);
        river.undo();
        river.saveSnapshot();
        river.pass(5);
        river.restoreSnapshot();
        Check.run(river, "cut;pass 1");
        CHECK.illegal("pass(0)", () -> river.pass(0));
        CHECK.outOfBounds("fill(8, 1)", () -> river.fill(8, 1));
        CHECK.fault(river, "x", 0);
        CHECK.due("denial()", river.denial(), 5);
        CHECK.due("denialDetail()", river.denialDetail(), 1);
        CHECK.due("denialCause()", river.denialCause(), 1);
        CHECK.due("denialCauseDetail()", river.denialCauseDetail(), 8);
        CHECK.due("denial() read again", river.denial(), 5);
    }

    private static void nextDenialReplacesIt() {
        RiverReaches river = new RiverReaches();
        CHECK.denied(river, "pass(1)", 3, 0, () -> river.pass(1));
        river.addReach(10, 20, 30);
        river.pass(6);
        CHECK.denied(river, "addPulse(5, 1, 1)", 2, 6, () -> river.addPulse(5, 1, 1));
        CHECK.failedCommand(river, "pass 1;pulse 6 1 1", 1, 2, 7);
        CHECK.failedCommand(river, "rule 0 f", 0, 4, 102);
        CHECK.denied(river, "setRule(0, 'f')", 4, 102, () -> river.setRule(0, 'f'));
    }

    private static void failedCommandIsNoDenialOfItsOwn() {
        RiverReaches river = Check.row(1);
        CHECK.failedCommand(river, "cut;cut", 1, 3, 0);
        CHECK.due("denial(), of the text and not of the command", river.denial(), 5);
        CHECK.due("denialDetail(), the index and not the counter", river.denialDetail(), 1);
    }

    private static void detailsOfTheFourReasons() {
        RiverReaches river = Check.row(8);
        for (int i = 0; i < 8; i++) {
            river.addPulse(999, 1, 1);
        }
        river.pass(48);
        CHECK.denied(river, "addReach(), the limit", 1, 8, () -> river.addReach(1, 5, 1));
        CHECK.denied(river, "addPulse(), the limit", 1, 8, () -> river.addPulse(48, 1, 1));
        CHECK.denied(river, "addPulse(), the hour counter", 2, 48, () -> river.addPulse(47, 1, 1));
        CHECK.denied(river, "setRule(), the code of the letter", 4, 'f', () -> river.setRule(7, 'f'));
        CHECK.due("eight cuts", Check.run(river, "cut;cut;cut;cut;cut;cut;cut;cut"), 8);
        CHECK.denied(river, "removeLastReach(), the hour counter", 3, 48, river::removeLastReach);
        CHECK.denied(river, "pass(), the hour counter", 3, 48, () -> river.pass(1));
    }

    // ---- promise 49

    private static void undo() {
        nothingToUndo();
        oneChangeToUndo();
        eightChangesToUndo();
        ninthChangeIsForgotten();
        forgottenChangesStayForgotten();
        undoHoldsInLongRuns();
        undoesTheLatestThatCanBeUndone();
        textIsOneChange();
        undoneStateIsWhole();
        undoLeavesTheRest();
    }

    private static void nothingToUndo() {
        RiverReaches river = new RiverReaches();
        CHECK.illegalState("undo() of a new river", river::undo);
        CHECK.illegalState("undo() of a new river again", river::undo);
        CHECK.due("undoCount() after it", river.undoCount(), 0);
        CHECK.due("addReach() after it", river.addReach(10, 20, 30), 0);
        CHECK.due("undoCount() after a change", river.undoCount(), 1);
    }

    private static void oneChangeToUndo() {
        RiverReaches river = Check.row(1);
        CHECK.due("undo() of the only change", river.undo(), 0);
        CHECK.due("reachCount() after it", river.reachCount(), 0);
        CHECK.illegalState("undo() after it", river::undo);
        CHECK.due("addReach() after it", river.addReach(10, 20, 30), 0);
        CHECK.due("volume(0) after it", river.volume(0), 0);
    }

    private static void eightChangesToUndo() {
        RiverReaches river = Check.row(8);
        for (int left = 7; left >= 0; left--) {
            CHECK.due("undo()", river.undo(), left);
            CHECK.due("reachCount()", river.reachCount(), left);
        }
        CHECK.illegalState("undo() of none", river::undo);
    }

    private static void ninthChangeIsForgotten() {
        RiverReaches river = Check.row(8);
        river.fill(0, 5);
        for (int left = 7; left >= 0; left--) {
            CHECK.due("undo()", river.undo(), left);
        }
        CHECK.due("reachCount() of the oldest state", river.reachCount(), 1);
        CHECK.illegalState("undo() of the forgotten change", river::undo);
        CHECK.due("reachCount() after it", river.reachCount(), 1);
    }

    private static void forgottenChangesStayForgotten() {
        RiverReaches river = Check.row(1);
        for (int volume = 1; volume <= 12; volume++) {
            river.fill(0, 1);
        }
        for (int i = 0; i < 5; i++) {
            river.undo();
        }
        CHECK.due("undoCount() after five", river.undoCount(), 3);
        river.fill(0, 100);
        CHECK.due("undoCount() after another change", river.undoCount(), 4);
        for (int left = 3; left >= 0; left--) {
            CHECK.due("undo()", river.undo(), left);
        }
        CHECK.due("volume(0) of the oldest state", river.volume(0), 4);
        CHECK.illegalState("undo() of a forgotten change", river::undo);
    }

    /** Far more changes and undos than are kept at once, with every number of undos between. */
    private static void undoHoldsInLongRuns() {
        for (int undone = 0; undone <= 8; undone++) {
            RiverReaches river = Check.row(1);
            int volume = 0;
            for (int round = 0; round < 20; round++) {
                for (int i = 0; i < 9; i++) {
                    river.fill(0, round + 1);
                }
                volume += 9 * (round + 1);
                for (int i = 1; i <= undone; i++) {
                    CHECK.due("undo()", river.undo(), 8 - i);
                }
                volume -= undone * (round + 1);
                CHECK.due("volume(0) in round " + round, river.volume(0), volume);
                CHECK.due("totalIn() in round " + round, river.totalIn(), volume);
            }
        }
    }

    private static void undoesTheLatestThatCanBeUndone() {
        RiverReaches river = Check.row(1);
        river.fill(0, 1);
        river.fill(0, 2);
        river.undo();
        river.fill(0, 4);
        CHECK.due("volume(0)", river.volume(0), 5);
        CHECK.due("undo() of the change after an undo", river.undo(), 2);
        CHECK.due("volume(0) after it", river.volume(0), 1);
        CHECK.due("undo() of the change before the undone one", river.undo(), 1);
        CHECK.due("volume(0) after it", river.volume(0), 0);
    }

    private static void textIsOneChange() {
        RiverReaches river = new RiverReaches();
        Check.run(river, "reach 1 5 1;pulse 0 2 9;pass 1;fill 0 9;lateral 0 9;gate 0 9");
        CHECK.due("undoCount() of a text", river.undoCount(), 1);
        CHECK.due("undo() of a text", river.undo(), 0);
        CHECK.due("reachCount() after it", river.reachCount(), 0);
        CHECK.due("pulseCount() after it", river.pulseCount(), 0);
        CHECK.due("hour() after it", river.hour(), 0);
    }

    private static RiverReaches lively() {
        RiverReaches river = Check.row(3);
        river.setLateral(1, 11);
        river.setStages(1, 5, 9);
        river.setGate(0, 70);
        river.setRule(0, 'h');
        river.fill(0, 399);
        river.fill(1, 85);
        river.addPulse(0, 1, 30);
        river.addPulse(0, 5, 60);
        river.addPulse(40, 2, 8);
        return river;
    }

    private static void undoneStateIsWhole() {
        RiverReaches river = lively();
        RiverReaches twin = lively();
        river.pass(48);
        river.removeLastReach();
        river.removeLastReach();
        river.removeLastReach();
        river.addReach(50, 60, 500);
        river.fill(0, 999);
        river.undo();
        river.undo();
        river.undo();
        river.undo();
        river.undo();
        CHECK.due("undo() of pass(48)", river.undo(), 2);
        CHECK.due("alarms()", river.alarms(), 0);
        CHECK.due("the state as before", withoutUndos(river), withoutUndos(twin));
        river.pass(7);
        twin.pass(7);
        CHECK.due("the state seven hours later", withoutUndos(river), withoutUndos(twin));
        CHECK.due("alarms() seven hours later", river.alarms(), twin.alarms());
    }

    private static String withoutUndos(RiverReaches river) {
        String count = " " + river.undoCount() + " pulses";
        return Check.state(river).replace(count, " pulses");
    }

    private static void undoLeavesTheRest() {
        RiverReaches river = Check.row(1);
        CHECK.fault(river, "cux", 2);
        CHECK.denied(river, "setGate(0, 100)", 4, 100, () -> river.setGate(0, 100));
        river.saveSnapshot();
        river.writeRiver();
        Check.feed(river, "cut;x");
        river.fill(0, 500);
        river.undo();
        river.undo();
        CHECK.due("faultPosition() after undo()", river.faultPosition(), 2);
        CHECK.due("denial() after undo()", river.denial(), 4);
        CHECK.due("denialDetail() after undo()", river.denialDetail(), 100);
        CHECK.due("the line after undo()", Check.line(river, 1), "0");
        CHECK.due("feed() after undo()", river.feed(';'), 6);
        CHECK.illegal("execute() after undo()", river::execute);
        CHECK.due("its faultPosition()", river.faultPosition(), 4);
        CHECK.due("restoreSnapshot() after undo()", river.restoreSnapshot(), 1);
    }

    // ---- 'Undo': the changes

    private static void changes() {
        eachOfTheTenIsAChange();
        eachOfTheTenIsUndone();
        refusedCallsAreNoChanges();
        otherCallsAreNoChanges();
    }

    private static void counted(String call, RiverReaches river, int due, Check.Call made) {
        CHECK.accepted(call, made);
        CHECK.due("undoCount() after " + call, river.undoCount(), due);
    }

    private static void eachOfTheTenIsAChange() {
        RiverReaches river = new RiverReaches();
        counted("addReach()", river, 1, () -> river.addReach(10, 20, 30));
        counted("setLateral()", river, 2, () -> river.setLateral(0, 1));
        counted("fill()", river, 3, () -> river.fill(0, 1));
        counted("setStages()", river, 4, () -> river.setStages(0, 20, 40));
        counted("setGate()", river, 5, () -> river.setGate(0, 1));
        counted("setRule()", river, 6, () -> river.setRule(0, 'h'));
        counted("addPulse()", river, 7, () -> river.addPulse(0, 1, 1));
        counted("pass()", river, 8, () -> river.pass(1));
        RiverReaches other = Check.row(1);
        counted("removeLastReach()", other, 2, other::removeLastReach);
        counted("execute()", other, 3, () -> Check.run(other, "reach 1 5 1"));
        CHECK.due("undo()", other.undo(), 2);
        CHECK.due("undo()", other.undo(), 1);
        CHECK.due("reachCount()", other.reachCount(), 1);
    }

    /** The change is undone, and then the one before it, so that each has a state of its own to come back to. */
    private static void undone(String call, Check.NumberCall change) {
        RiverReaches river = lively();
        river.fill(2, 3);
        String before = withoutUndos(river);
        CHECK.accepted(call, () -> change.answer(river, 0));
        CHECK.due(call + " is a change", withoutUndos(river).equals(before), false);
        CHECK.due("undo() of " + call, river.undo(), 7);
        CHECK.due("the state before " + call, withoutUndos(river), before);
        CHECK.due("undo() of the change before " + call, river.undo(), 6);
        CHECK.due("the state before that one", withoutUndos(river), withoutUndos(lively()));
    }

    private static void eachOfTheTenIsUndone() {
        undone("addReach()", (r, reach) -> r.addReach(10, 20, 30));
        undone("removeLastReach()", (r, reach) -> r.removeLastReach());
        undone("setLateral()", (r, reach) -> r.setLateral(reach, 50));
        undone("fill()", (r, reach) -> r.fill(reach, 999));
        undone("setStages()", (r, reach) -> r.setStages(reach, 1, 2));
        undone("setGate()", (r, reach) -> r.setGate(reach, 0));
        undone("setRule()", (r, reach) -> r.setRule(reach, 'r'));
        undone("addPulse()", (r, reach) -> r.addPulse(reach, 1, 200));
        undone("pass()", (r, reach) -> r.pass(1));
        undone("execute()", (r, reach) -> Check.run(r, "cut;lateral 0 5;pass 2;rule 0 r;fill 1 9;cut;cut"));
    }

    private static void refusedCallsAreNoChanges() {
        RiverReaches river = Check.row(8);
        river.undo();
        river.addReach(50, 60, 500);
        CHECK.denied(river, "addReach()", 1, 8, () -> river.addReach(1, 5, 1));
        CHECK.illegal("addReach(0, 5, 1)", () -> river.addReach(0, 5, 1));
        CHECK.outOfBounds("fill(8, 1)", () -> river.fill(8, 1));
        CHECK.denied(river, "setRule(0, 'f')", 4, 'f', () -> river.setRule(0, 'f'));
        CHECK.fault(river, "cut;", 4);
        CHECK.failedCommand(river, "cut;fill 7 1", 1, 6, 0);
        CHECK.due("undoCount() after refusals", river.undoCount(), 8);
        CHECK.due("undo() of the change before them", river.undo(), 7);
        CHECK.due("reachCount() after it", river.reachCount(), 7);
        CHECK.due("undo() of the one before", river.undo(), 6);
        CHECK.due("reachCount() after it", river.reachCount(), 6);
    }

    private static void otherCallsAreNoChanges() {
        RiverReaches river = Check.row(2);
        river.feed('c');
        river.writeReach(1);
        river.writeRiver();
        river.saveSnapshot();
        river.levelAfter(0, 48);
        river.peakLevel(0, 48);
        river.volumeAfter(48);
        river.volumeAfterByBalance(48);
        river.pendingInflow();
        river.pendingInflowByPulses();
        CHECK.noSuchElement("hoursUntilFlood(0)", () -> river.hoursUntilFlood(0));
        CHECK.due("undoCount() after other calls", river.undoCount(), 2);
        CHECK.due("undo() after other calls", river.undo(), 1);
        CHECK.due("reachCount()", river.reachCount(), 1);
    }

    // ---- promise 50

    private static void undoCount() {
        RiverReaches river = new RiverReaches();
        CHECK.due("undoCount() of a new river", river.undoCount(), 0);
        river.addReach(10, 20, 30);
        for (int made = 2; made <= 20; made++) {
            river.fill(0, 1);
            CHECK.due("undoCount() after " + made, river.undoCount(), Math.min(8, made));
        }
        for (int left = 7; left >= 0; left--) {
            CHECK.due("undo()", river.undo(), left);
            CHECK.due("undoCount()", river.undoCount(), left);
        }
        CHECK.illegalState("undo()", river::undo);
        CHECK.due("undoCount() after a refused undo()", river.undoCount(), 0);
    }

    // ---- promises 51 and 52

    private static void snapshots() {
        noSnapshot();
        snapshotOfANewRiver();
        snapshotOfEightReaches();
        snapshotReplacesAnEarlierOne();
        snapshotIsKeptWhenRestored();
        snapshotOutlivesUndo();
        saveLeavesTheUndos();
        nothingCanBeUndoneAfterARestore();
        changesAfterARestoreCanBeUndone();
        restoredStateIsWhole();
        restoreLeavesTheRest();
    }

    private static void noSnapshot() {
        RiverReaches river = Check.row(2);
        CHECK.illegalState("restoreSnapshot() of none", river::restoreSnapshot);
        CHECK.due("reachCount() after it", river.reachCount(), 2);
        CHECK.due("undoCount() after it", river.undoCount(), 2);
    }

    private static void snapshotOfANewRiver() {
        RiverReaches river = new RiverReaches();
        CHECK.due("saveSnapshot() of a new river", river.saveSnapshot(), 0);
        river.addReach(10, 20, 30);
        river.addPulse(0, 1, 1);
        river.pass(9);
        CHECK.due("restoreSnapshot() of a new river", river.restoreSnapshot(), 0);
        CHECK.due("reachCount()", river.reachCount(), 0);
        CHECK.due("hour()", river.hour(), 0);
        CHECK.due("pulseCount()", river.pulseCount(), 0);
        CHECK.denied(river, "pass(1)", 3, 0, () -> river.pass(1));
    }

    private static void snapshotOfEightReaches() {
        RiverReaches river = Check.row(8);
        CHECK.due("saveSnapshot() of eight", river.saveSnapshot(), 8);
        Check.run(river, "cut;cut;cut;cut;cut;cut;cut;cut");
        CHECK.due("restoreSnapshot() of eight", river.restoreSnapshot(), 8);
        CHECK.due("reachCount()", river.reachCount(), 8);
        CHECK.denied(river, "ninth addReach()", 1, 8, () -> river.addReach(10, 20, 30));
    }

    private static void snapshotReplacesAnEarlierOne() {
        RiverReaches river = Check.row(1);
        CHECK.due("saveSnapshot()", river.saveSnapshot(), 1);
        river.addReach(10, 20, 30);
        CHECK.due("saveSnapshot() again", river.saveSnapshot(), 2);
        river.addReach(10, 20, 30);
        CHECK.due("restoreSnapshot()", river.restoreSnapshot(), 2);
    }

    private static void snapshotIsKeptWhenRestored() {
        RiverReaches river = Check.filled(10, 50);
        river.saveSnapshot();
        for (int time = 0; time < 3; time++) {
            CHECK.due("restoreSnapshot()", river.restoreSnapshot(), 1);
            CHECK.due("volume(0)", river.volume(0), 50);
            CHECK.due("hour()", river.hour(), 0);
            river.fill(0, 9);
            river.pass(2);
            river.setGate(0, 9);
        }
    }

    private static void snapshotOutlivesUndo() {
        RiverReaches river = Check.row(1);
        river.fill(0, 50);
        river.saveSnapshot();
        river.undo();
        river.undo();
        CHECK.due("restoreSnapshot() of an undone state", river.restoreSnapshot(), 1);
        CHECK.due("volume(0)", river.volume(0), 50);
    }

    private static void saveLeavesTheUndos() {
        RiverReaches river = Check.row(2);
        river.saveSnapshot();
        CHECK.due("undoCount() after saveSnapshot()", river.undoCount(), 2);
        CHECK.due("undo() after saveSnapshot()", river.undo(), 1);
        CHECK.due("reachCount()", river.reachCount(), 1);
    }

    private static void nothingCanBeUndoneAfterARestore() {
        RiverReaches river = Check.row(8);
        river.saveSnapshot();
        river.restoreSnapshot();
        CHECK.due("undoCount() after restoreSnapshot()", river.undoCount(), 0);
        CHECK.illegalState("undo() after restoreSnapshot()", river::undo);
        CHECK.due("reachCount()", river.reachCount(), 8);
    }

    private static void changesAfterARestoreCanBeUndone() {
        RiverReaches river = Check.row(8);
        river.saveSnapshot();
        river.restoreSnapshot();
        river.fill(0, 1);
        river.fill(0, 2);
        CHECK.due("undoCount()", river.undoCount(), 2);
        CHECK.due("undo()", river.undo(), 1);
        CHECK.due("undo()", river.undo(), 0);
        CHECK.due("volume(0)", river.volume(0), 0);
        CHECK.illegalState("undo() of a change before restoreSnapshot()", river::undo);
        for (int made = 1; made <= 9; made++) {
            river.fill(0, 1);
            CHECK.due("undoCount()", river.undoCount(), Math.min(8, made));
        }
    }

    private static void restoredStateIsWhole() {
        RiverReaches river = lively();
        RiverReaches twin = lively();
        river.pass(2);
        twin.pass(2);
        river.saveSnapshot();
        Check.run(river, "cut;stages 0 1 2;gate 0 50;rule 0 f;lateral 0 9;fill 0 99");
        Check.run(river, "stages 1 6 8;pulse 5 5 5;pass 48;cut;reach 1 5 1;fill 1 1");
        river.restoreSnapshot();
        CHECK.due("the state as saved", withoutUndos(river), withoutUndos(twin));
        CHECK.due("alarms() as saved", river.alarms(), twin.alarms());
        river.pass(7);
        twin.pass(7);
        CHECK.due("the state seven hours later", withoutUndos(river), withoutUndos(twin));
    }

    private static void restoreLeavesTheRest() {
        RiverReaches river = Check.filled(10, 400);
        river.saveSnapshot();
        CHECK.fault(river, "cux", 2);
        CHECK.failedCommand(river, "fill 0 1;gate 0 100", 1, 4, 100);
        river.writeRiver();
        Check.feed(river, "cut");
        river.restoreSnapshot();
        CHECK.due("faultPosition() after restoreSnapshot()", river.faultPosition(), 2);
        CHECK.due("denial() after restoreSnapshot()", river.denial(), 5);
        CHECK.due("denialDetail() after restoreSnapshot()", river.denialDetail(), 1);
        CHECK.due("denialCause() after restoreSnapshot()", river.denialCause(), 4);
        CHECK.due("denialCauseDetail() after restoreSnapshot()", river.denialCauseDetail(), 100);
        CHECK.due("the line after restoreSnapshot()", Check.line(river, 3), "40!");
        CHECK.due("execute() after restoreSnapshot()", river.execute(), 1);
        CHECK.due("reachCount()", river.reachCount(), 0);
    }
}
