/** Promises 45 to 52: the latest denial, undo and snapshots. */
public final class UndoTest {
    private static final Check CHECK = new Check("UndoTest");

    public static void main(String[] args) {
        denials();
        denialIsKept();
        undoOfEachChange();
        undoOfAWarningLevel();
        undoOfEightChanges();
        undoOfATextIsOne();
        undoAfterUndo();
        undoKeepsTheRest();
        noUndoOfRefusals();
        noUndoOfOtherCalls();
        snapshot();
        snapshotIsKept();
        snapshotOfAllState();
        snapshotIsReplaced();
        CHECK.finish();
    }

    private static RiverReaches busy() {
        RiverReaches river = new RiverReaches();
        river.addReach(10, 20, 30);
        river.addReach(5, 50, 100);
        river.fill(0, 390);
        river.setLateral(0, 7);
        river.addPulse(0, 3, 60);
        return river;
    }

    private static void denials() {
        RiverReaches river = new RiverReaches();
        CHECK.noSuchElement("denial() before any", river::denial);
        CHECK.noSuchElement("denialDetail() before any", river::denialDetail);
        CHECK.noSuchElement("denialCause() before any", river::denialCause);
        CHECK.noSuchElement("denialCauseDetail() before any", river::denialCauseDetail);
        CHECK.denied(river, "removeLastReach()", 3, 0, river::removeLastReach);
        CHECK.failedCommand(river, "reach 1 5 1;fill 0 0", 1, 6, 0);
        river.addReach(1, 5, 1);
        CHECK.denied(river, "setRule(0, 'f')", 4, 102, () -> river.setRule(0, 'f'));
    }

    private static void denialIsKept() {
        RiverReaches river = busy();
        river.saveSnapshot();
        CHECK.failedCommand(river, "fill 0 1;gate 1 100", 1, 4, 100);
        river.fill(0, 1);
        river.undo();
        river.restoreSnapshot();
        CHECK.illegal("fill(0, 0)", () -> river.fill(0, 0));
        CHECK.fault(river, "x", 0);
        Check.run(river, "pass 1");
        CHECK.due("denial()", river.denial(), 5);
        CHECK.due("denialDetail()", river.denialDetail(), 1);
        CHECK.due("denialCause()", river.denialCause(), 4);
        CHECK.due("denialCauseDetail()", river.denialCauseDetail(), 100);
    }

    private interface Change {
        void make(RiverReaches river);
    }

    private static void undone(String name, Change change) {
        RiverReaches river = busy();
        String before = Check.state(river);
        change.make(river);
        CHECK.due(name + " changes", Check.state(river).equals(before), false);
        CHECK.due(name + " counts", river.undoCount(), 6);
        CHECK.due(name + ": undo()", river.undo(), 5);
        CHECK.due(name + " undone", Check.state(river), before);
    }

    private static void undoOfEachChange() {
        undone("addReach", r -> r.addReach(1, 5, 1));
        undone("removeLastReach", RiverReaches::removeLastReach);
        undone("setLateral", r -> r.setLateral(0, 8));
        undone("fill", r -> r.fill(1, 9));
        undone("setStages", r -> r.setStages(0, 100, 200));
        undone("setGate", r -> r.setGate(0, 3));
        undone("setRule", r -> r.setRule(1, 'r'));
        undone("addPulse", r -> r.addPulse(0, 1, 1));
        undone("pass", r -> r.pass(48));
        undone("execute", r -> Check.run(r, "cut;cut;pulse 3 1 1;reach 1 5 1;pass 9"));
    }

    private static void undoOfAWarningLevel() {
        RiverReaches river = new RiverReaches();
        river.addReach(10, 20, 30);
        river.fill(0, 250);
        CHECK.due("setStages(0, 26, 40)", river.setStages(0, 26, 40), 0);
        river.undo();
        CHECK.due("status(0) of the warning level before", river.status(0), 1);
        river.saveSnapshot();
        river.setStages(0, 26, 40);
        river.restoreSnapshot();
        CHECK.due("status(0) of the warning level saved", river.status(0), 1);
        CHECK.due("levelAfter(0, 1)", river.levelAfter(0, 1), 22);
        CHECK.due("roomBelowFlood(0)", river.roomBelowFlood(0), 149);
    }

    private static void undoOfEightChanges() {
        RiverReaches river = new RiverReaches();
        CHECK.illegalState("undo() of none", river::undo);
        river.addReach(10, 20, 30);
        for (int i = 1; i <= 9; i++) {
            river.fill(0, i);
            CHECK.due("undoCount()", river.undoCount(), Math.min(8, i + 1));
        }
        for (int left = 7; left >= 0; left--) {
            CHECK.due("undo()", river.undo(), left);
            CHECK.due("volume(0)", river.volume(0), (left + 1) * (left + 2) / 2);
            CHECK.due("undoCount()", river.undoCount(), left);
        }
        CHECK.illegalState("undo() of a forgotten change", river::undo);
        CHECK.due("volume(0)", river.volume(0), 1);
    }

    private static void undoOfATextIsOne() {
        RiverReaches river = new RiverReaches();
        Check.run(river, "reach 1 5 1;fill 0 9;pass 1;gate 0 5");
        CHECK.due("undoCount() after a text", river.undoCount(), 1);
        CHECK.due("undo() of a text", river.undo(), 0);
        CHECK.due("reachCount()", river.reachCount(), 0);
        CHECK.due("hour()", river.hour(), 0);
        CHECK.due("totalIn()", river.totalIn(), 0);
    }

    private static void undoAfterUndo() {
        RiverReaches river = new RiverReaches();
        river.addReach(10, 20, 30);
        for (int i = 0; i < 12; i++) {
            river.fill(0, 1);
        }
        for (int i = 0; i < 3; i++) {
            river.undo();
        }
        CHECK.due("volume(0)", river.volume(0), 9);
        river.fill(0, 100);
        CHECK.due("undoCount()", river.undoCount(), 6);
        river.undo();
        CHECK.due("volume(0)", river.volume(0), 9);
        for (int i = 0; i < 5; i++) {
            river.undo();
        }
        CHECK.due("volume(0)", river.volume(0), 4);
        CHECK.illegalState("undo() beyond", river::undo);
    }

    private static void undoKeepsTheRest() {
        RiverReaches river = busy();
        int length = river.writeRiver();
        String line = Check.line(river, length);
        river.saveSnapshot();
        river.pass(1);
        Check.feed(river, "cut");
        river.undo();
        CHECK.due("the line after undo()", Check.line(river, length), line);
        CHECK.due("the buffer after undo()", river.feed(';'), 4);
        CHECK.due("the snapshot after undo()", river.restoreSnapshot(), 2);
    }

    private static void noUndoOfRefusals() {
        RiverReaches river = busy();
        String before = Check.state(river);
        CHECK.illegal("fill(0, 0)", () -> river.fill(0, 0));
        CHECK.outOfBounds("fill(2, 1)", () -> river.fill(2, 1));
        CHECK.denied(river, "setGate(0, 100)", 4, 100, () -> river.setGate(0, 100));
        CHECK.illegal("pass(0)", () -> river.pass(0));
        CHECK.fault(river, "fill 0 1;", 9);
        CHECK.failedCommand(river, "fill 0 1;fill 3 1", 1, 6, 0);
        CHECK.due("the state after refusals", Check.state(river), before);
    }

    private static void noUndoOfOtherCalls() {
        RiverReaches river = busy();
        river.feed('c');
        river.writeRiver();
        river.writeReach(0);
        river.saveSnapshot();
        river.peakLevel(0, 5);
        CHECK.due("undoCount()", river.undoCount(), 5);
    }

    private static void snapshot() {
        RiverReaches river = new RiverReaches();
        CHECK.illegalState("restoreSnapshot() of none", river::restoreSnapshot);
        CHECK.due("saveSnapshot() of an empty river", river.saveSnapshot(), 0);
        river.addReach(10, 20, 30);
        CHECK.due("restoreSnapshot()", river.restoreSnapshot(), 0);
        CHECK.due("reachCount()", river.reachCount(), 0);
        CHECK.due("undoCount() after restoreSnapshot()", river.undoCount(), 0);
        CHECK.illegalState("undo() after restoreSnapshot()", river::undo);
    }

    private static void snapshotIsKept() {
        RiverReaches river = busy();
        CHECK.due("saveSnapshot()", river.saveSnapshot(), 2);
        CHECK.due("undoCount() after saveSnapshot()", river.undoCount(), 5);
        for (int time = 0; time < 3; time++) {
            river.fill(0, 10);
            river.pass(2);
            river.removeLastReach();
            CHECK.due("restoreSnapshot()", river.restoreSnapshot(), 2);
            CHECK.due("volume(0)", river.volume(0), 390);
            CHECK.due("hour()", river.hour(), 0);
            CHECK.due("undoCount()", river.undoCount(), 0);
        }
        river.fill(0, 10);
        CHECK.due("undo() after restoreSnapshot()", river.undo(), 0);
        CHECK.due("volume(0)", river.volume(0), 390);
    }

    private static void snapshotOfAllState() {
        RiverReaches river = busy();
        river.pass(1);
        river.saveSnapshot();
        river.restoreSnapshot();
        String before = Check.state(river);
        Check.run(river, "cut;stages 0 1 2;gate 0 50;rule 0 h;lateral 0 9;fill 0 99");
        Check.run(river, "pulse 5 5 5;pass 3;reach 1 5 1;reach 2 5 1;fill 1 1");
        river.restoreSnapshot();
        CHECK.due("the state after restoreSnapshot()", Check.state(river), before);
    }

    private static void snapshotIsReplaced() {
        RiverReaches river = busy();
        river.saveSnapshot();
        river.fill(0, 1);
        river.saveSnapshot();
        river.fill(0, 1);
        river.restoreSnapshot();
        CHECK.due("volume(0)", river.volume(0), 391);
    }
}
