/** Promises 39 to 44: texts and output lines. */
public final class TextsTest {
    private static final Check CHECK = new Check("TextsTest");

    public static void main(String[] args) {
        feed();
        executeEachCommand();
        executeCountsCommands();
        faultsOfWords();
        faultsOfParameters();
        faultsOfSeparators();
        faultsAtTheEndOfTheBuffer();
        faultPosition();
        faultChangesNothing();
        failedCommands();
        failedCommandsChangeNothing();
        bufferIsEmptyAfterwards();
        writeReach();
        writeRiver();
        lineCharacter();
        CHECK.finish();
    }

    private static void feed() {
        RiverReaches river = new RiverReaches();
        for (int length = 1; length <= 60; length++) {
            CHECK.due("feed number " + length, river.feed((char) (length * 1000)), length);
        }
        CHECK.illegalState("feed number 61", () -> river.feed('c'));
        CHECK.illegalState("feed number 61 again", () -> river.feed((char) 65535));
        CHECK.illegal("execute() of no command", river::execute);
        CHECK.due("feed after execute()", river.feed('c'), 1);
    }

    private static void executeEachCommand() {
        RiverReaches river = new RiverReaches();
        CHECK.due("reach", Check.run(river, "reach 10 20 30;reach 005 50 100"), 2);
        CHECK.due("reachCount()", river.reachCount(), 2);
        CHECK.due("lateral", Check.run(river, "lateral 1 4"), 1);
        CHECK.due("lateral(1)", river.lateral(1), 4);
        CHECK.due("fill", Check.run(river, "fill 0 300"), 1);
        CHECK.due("volume(0)", river.volume(0), 300);
        CHECK.due("stages", Check.run(river, "stages 0 31 45"), 1);
        CHECK.due("status(0)", river.status(0), 0);
        CHECK.due("roomBelowFlood(0)", river.roomBelowFlood(0), 149);
        CHECK.due("gate", Check.run(river, "gate 0 50"), 1);
        CHECK.due("opening(0)", river.opening(0), 50);
        CHECK.due("rule h", Check.run(river, "rule 0 h"), 1);
        CHECK.due("rule(0)", river.rule(0), 'h');
        CHECK.due("rule r", Check.run(river, "rule 0 r"), 1);
        CHECK.due("rule(0)", river.rule(0), 'r');
        CHECK.due("rule f", Check.run(river, "rule 0 f"), 1);
        CHECK.due("rule(0)", river.rule(0), 'f');
        CHECK.due("pulse", Check.run(river, "pulse 1 2 3"), 1);
        CHECK.due("headInflow(0)", river.headInflow(0), 0);
        CHECK.due("headInflow(1)", river.headInflow(1), 3);
        CHECK.due("headInflow(2)", river.headInflow(2), 3);
        CHECK.due("headInflow(3)", river.headInflow(3), 0);
        CHECK.due("pass", Check.run(river, "pass 2"), 1);
        CHECK.due("hour()", river.hour(), 2);
        CHECK.due("cut", Check.run(river, "cut"), 1);
        CHECK.due("reachCount()", river.reachCount(), 1);
        CHECK.noSuchElement("denial()", river::denial);
    }

    private static void executeCountsCommands() {
        RiverReaches river = new RiverReaches();
        for (int i = 0; i < 8; i++) {
            river.addReach(1, 5, 1);
        }
        CHECK.due("eight cuts", Check.run(river, "cut;cut;cut;cut;cut;cut;cut;cut"), 8);
        CHECK.due("reachCount()", river.reachCount(), 0);
        CHECK.due("sixty characters", Check.run(river, "reach 1 5 01;rule 0 h;fill 0 9;cut;reach 1 5 10;fill 0 1;cut"), 7);
        CHECK.failedCommand(river, "cut;cut;cut;cut;cut;cut;cut;cut;cut;cut;cut;cut;cut;cut;cut", 0, 3, 0);
    }

    private static void faultsOfWords() {
        RiverReaches river = new RiverReaches();
        CHECK.fault(river, "", 0);
        CHECK.fault(river, "x", 0);
        CHECK.fault(river, " cut", 0);
        CHECK.fault(river, "Cut", 0);
        CHECK.fault(river, ";", 0);
        CHECK.fault(river, "c", 1);
        CHECK.fault(river, "cx", 1);
        CHECK.fault(river, "cu", 2);
        CHECK.fault(river, "cat", 1);
        CHECK.fault(river, "r", 1);
        CHECK.fault(river, "rx", 1);
        CHECK.fault(river, "re", 2);
        CHECK.fault(river, "rule", 4);
        CHECK.fault(river, "rulx", 3);
        CHECK.fault(river, "rul\u0145", 3);
        CHECK.fault(river, "reac ", 4);
        CHECK.fault(river, "reachx", 5);
        CHECK.fault(river, "p", 1);
        CHECK.fault(river, "pa", 2);
        CHECK.fault(river, "pu", 2);
        CHECK.fault(river, "px", 1);
        CHECK.fault(river, "palse", 2);
        CHECK.fault(river, "puss", 2);
        CHECK.fault(river, "pulse", 5);
        CHECK.fault(river, "pass", 4);
        CHECK.fault(river, "pass;", 4);
        CHECK.fault(river, "stage 0", 5);
        CHECK.fault(river, "stages0", 6);
        CHECK.fault(river, "laterals", 7);
        CHECK.fault(river, "filk", 3);
        CHECK.fault(river, "gates 0 1", 4);
    }

    private static void faultsOfParameters() {
        RiverReaches river = new RiverReaches();
        CHECK.fault(river, "reach ", 6);
        CHECK.fault(river, "reach  1 1 1", 6);
        CHECK.fault(river, "reach x", 6);
        CHECK.fault(river, "reach 1", 7);
        CHECK.fault(river, "reach 12", 8);
        CHECK.fault(river, "reach 123", 9);
        CHECK.fault(river, "reach 1234", 9);
        CHECK.fault(river, "reach 1;", 7);
        CHECK.fault(river, "reach 1 ", 8);
        CHECK.fault(river, "reach 1  ", 8);
        CHECK.fault(river, "reach 1 2", 9);
        CHECK.fault(river, "reach 1 2;", 9);
        CHECK.fault(river, "reach 1 2 ", 10);
        CHECK.fault(river, "reach 1 2 3 ", 11);
        CHECK.fault(river, "reach 1 2 1000", 13);
        CHECK.fault(river, "reach -1 2 3", 6);
        CHECK.fault(river, "lateral x 1", 8);
        CHECK.fault(river, "lateral 10 1", 9);
        CHECK.fault(river, "lateral 1", 9);
        CHECK.fault(river, "lateral 1 ", 10);
        CHECK.fault(river, "lateral 1 1234", 13);
        CHECK.fault(river, "fill 00 1", 6);
        CHECK.fault(river, "fill 0 1 1", 8);
        CHECK.fault(river, "stages 0 1", 10);
        CHECK.fault(river, "stages 0 1 2 3", 12);
        CHECK.fault(river, "stages 01 1 2", 8);
        CHECK.fault(river, "gate 0 /", 7);
        CHECK.fault(river, "gate 0 :", 7);
        CHECK.fault(river, "rule 0 ", 7);
        CHECK.fault(river, "rule 0 x", 7);
        CHECK.fault(river, "rule 0 F", 7);
        CHECK.fault(river, "rule 0 ff", 8);
        CHECK.fault(river, "rule 00 f", 6);
        CHECK.fault(river, "pulse 1 1", 9);
        CHECK.fault(river, "pulse 0001 1 1", 9);
        CHECK.fault(river, "pass 1 ", 6);
        CHECK.fault(river, "pass 0480", 8);
        CHECK.fault(river, "pass \u0661", 5);
    }

    private static void faultsOfSeparators() {
        RiverReaches river = new RiverReaches();
        CHECK.fault(river, "cut;", 4);
        CHECK.fault(river, "cut;;cut", 4);
        CHECK.fault(river, "cut; cut", 4);
        CHECK.fault(river, "cut ;cut", 3);
        CHECK.fault(river, "cutcut", 3);
        CHECK.fault(river, "cut,cut", 3);
        CHECK.fault(river, "cut;c", 5);
        CHECK.fault(river, "cut;p", 5);
        CHECK.fault(river, "pass 1;rule 0 h;pass 1x", 22);
        CHECK.fault(river, "pass 1;rule 0 h;pass", 20);
    }

    private static void faultsAtTheEndOfTheBuffer() {
        RiverReaches river = new RiverReaches();
        String cuts = "cut;cut;cut;cut;cut;cut;cut;cut;cut;cut;cut;cut;cut;cut;cut";
        CHECK.fault(river, cuts + ";", 60);
        CHECK.fault(river, cuts + "x", 59);
        CHECK.fault(river, cuts.substring(0, 56) + "pass", 60);
        CHECK.fault(river, cuts.substring(0, 48) + "reach 100 20", 60);
        CHECK.fault(river, cuts.substring(0, 48) + "lateral 0 5;", 60);
    }

    private static void faultPosition() {
        RiverReaches river = new RiverReaches();
        CHECK.noSuchElement("faultPosition() before any fault", river::faultPosition);
        CHECK.failedCommand(river, "cut", 0, 3, 0);
        CHECK.noSuchElement("faultPosition() after a denial", river::faultPosition);
        CHECK.fault(river, "reach 1 1 x", 10);
        Check.run(river, "reach 1 5 1");
        CHECK.due("faultPosition() after a good text", river.faultPosition(), 10);
        river.undo();
        CHECK.due("faultPosition() after undo()", river.faultPosition(), 10);
        CHECK.fault(river, "q", 0);
    }

    private static void faultChangesNothing() {
        RiverReaches river = new RiverReaches();
        river.addReach(10, 20, 30);
        river.fill(0, 50);
        String before = Check.state(river);
        CHECK.fault(river, "fill 0 9;reach 1 5 1;pass 1;cut;cut;", 36);
        CHECK.due("the state after a fault", Check.state(river), before);
        CHECK.noSuchElement("no denial by a fault", river::denial);
    }

    private static void failedCommands() {
        RiverReaches river = new RiverReaches();
        CHECK.failedCommand(river, "pass 1", 0, 3, 0);
        CHECK.failedCommand(river, "pass 49", 0, 6, 0);
        CHECK.failedCommand(river, "reach 1 5 1;reach 0 5 1", 1, 6, 0);
        CHECK.failedCommand(river, "reach 1 5 1;fill 0 5;fill 1 5", 2, 6, 0);
        CHECK.failedCommand(river, "reach 1 5 1;cut;cut", 2, 3, 0);
        CHECK.failedCommand(river, "reach 1 5 1;pass 9;cut;cut", 3, 3, 9);
        CHECK.failedCommand(river, "reach 1 5 1;pass 9;cut;pass 1", 3, 3, 9);
        CHECK.failedCommand(river, "reach 1 5 1;pass 9;pulse 8 1 1", 2, 2, 9);
        CHECK.failedCommand(river, "pulse 999 25 1", 0, 6, 0);
        CHECK.failedCommand(river, "reach 1 5 1;lateral 0 7;lateral 0 7", 2, 4, 7);
        CHECK.failedCommand(river, "reach 1 5 1;lateral 0 0", 1, 4, 0);
        CHECK.failedCommand(river, "reach 1 5 1;gate 0 100", 1, 4, 100);
        CHECK.failedCommand(river, "reach 1 5 1;rule 0 f", 1, 4, 'f');
        CHECK.failedCommand(river, "reach 1 5 1;rule 0 h;rule 0 h", 2, 4, 'h');
        CHECK.failedCommand(river, "reach 1 5 1;rule 9 f", 1, 6, 0);
        CHECK.failedCommand(river, "reach 1 5 1;stages 0 5 5", 1, 6, 0);
        for (int i = 0; i < 8; i++) {
            river.addReach(1, 5, 1);
            river.addPulse(0, 1, 1);
        }
        CHECK.failedCommand(river, "fill 0 1;reach 1 5 1", 1, 1, 8);
        CHECK.failedCommand(river, "fill 0 1;pulse 0 1 1", 1, 1, 8);
        CHECK.denied(river, "a denial of no text has no cause", 1, 8, () -> river.addReach(1, 5, 1));
    }

    private static void failedCommandsChangeNothing() {
        RiverReaches river = new RiverReaches();
        river.addReach(10, 20, 30);
        river.addReach(5, 50, 100);
        river.addPulse(1, 2, 90);
        for (int i = 0; i < 7; i++) {
            river.fill(1, 35 + i);
        }
        String before = Check.state(river);
        CHECK.failedCommand(river, "gate 1 3;rule 1 h;pass 4;lateral 0 5;cut;fill 1 1", 5, 6, 0);
        CHECK.failedCommand(river, "stages 0 1 2;pulse 9 9 9;fill 0 9;reach 1 5 1;rule 2 f", 4, 4, 'f');
        CHECK.due("the state after a failed text", Check.state(river), before);
        river.undo();
        CHECK.due("undo() takes back the change before the failed text", river.volume(1), 35 * 6 + 15);
        CHECK.due("undoCount()", river.undoCount(), 7);
    }

    private static void bufferIsEmptyAfterwards() {
        RiverReaches river = new RiverReaches();
        Check.run(river, "reach 1 5 1");
        CHECK.due("feed after a good text", river.feed('x'), 1);
        CHECK.illegal("execute()", river::execute);
        CHECK.due("feed after a fault", river.feed('c'), 1);
        Check.feed(river, "ut;cut");
        CHECK.throwsDue("execute()", UnsupportedOperationException.class, river::execute);
        CHECK.due("feed after a failed text", river.feed('c'), 1);
        Check.feed(river, "ut");
        river.pass(1);
        river.undo();
        river.saveSnapshot();
        river.restoreSnapshot();
        CHECK.due("the buffer outlives undo and snapshots", river.execute(), 1);
        CHECK.due("reachCount()", river.reachCount(), 0);
    }

    private static void writeReach() {
        RiverReaches river = new RiverReaches();
        CHECK.outOfBounds("writeReach(0) of none", () -> river.writeReach(0));
        river.addReach(1, 5, 1);
        river.addReach(50, 60, 500);
        river.addReach(10, 20, 30);
        river.addReach(10, 20, 30);
        CHECK.due("writeReach(0)", Check.line(river, river.writeReach(0)), "0=0/1@0 f100");
        river.fill(2, 340);
        river.setGate(2, 100 - 1);
        river.setRule(2, 'h');
        CHECK.due("writeReach(2)", Check.line(river, river.writeReach(2)), "2=340/10@34! h99");
        river.fill(3, 999);
        CHECK.due("writeReach(2)", Check.line(river, river.writeReach(2)), "2=340/10@34! h49");
        CHECK.due("writeReach(3)", Check.line(river, river.writeReach(3)), "3=999/10@99!! f100");
        river.setGate(3, 0);
        CHECK.due("writeReach(3)", Check.line(river, river.writeReach(3)), "3=999/10@99!! f0");
        river.setRule(3, 'r');
        CHECK.due("writeReach(3)", Check.line(river, river.writeReach(3)), "3=999/10@99!! r100");
        CHECK.due("the length", river.writeReach(0), 12);
        CHECK.outOfBounds("writeReach(4)", () -> river.writeReach(4));
        CHECK.outOfBounds("writeReach(-1)", () -> river.writeReach(-1));
        CHECK.due("the line after refusals", Check.line(river, 12), "0=0/1@0 f100");
    }

    private static void writeRiver() {
        RiverReaches river = new RiverReaches();
        CHECK.due("writeRiver() of none", river.writeRiver(), 0);
        river.addReach(1, 5, 1);
        CHECK.due("writeRiver()", Check.line(river, river.writeRiver()), "0");
        river.addReach(10, 5, 1);
        river.addReach(1, 5, 1);
        river.fill(0, 12);
        river.fill(1, 459);
        CHECK.due("writeRiver()", Check.line(river, river.writeRiver()), "12>45!>0");
        river.fill(2, 40);
        river.fill(0, 8);
        CHECK.due("writeRiver()", Check.line(river, river.writeRiver()), "20>45!>40!");
        CHECK.due("its length", river.writeRiver(), 10);
        river.removeLastReach();
        river.removeLastReach();
        river.removeLastReach();
        CHECK.due("writeRiver() of none", river.writeRiver(), 0);
        CHECK.outOfBounds("lineCharacter(0) of an empty line", () -> river.lineCharacter(0));
    }

    private static void lineCharacter() {
        RiverReaches river = new RiverReaches();
        CHECK.outOfBounds("lineCharacter(0) of a new object", () -> river.lineCharacter(0));
        river.addReach(1, 5, 1);
        int length = river.writeReach(0);
        CHECK.due("lineCharacter(0)", river.lineCharacter(0), '0');
        CHECK.due("lineCharacter(length - 1)", river.lineCharacter(length - 1), '0');
        CHECK.outOfBounds("lineCharacter(length)", () -> river.lineCharacter(length));
        CHECK.outOfBounds("lineCharacter(-1)", () -> river.lineCharacter(-1));
        CHECK.outOfBounds("lineCharacter(greatest int)", () -> river.lineCharacter(Integer.MAX_VALUE));
        river.fill(0, 999);
        river.undo();
        river.saveSnapshot();
        river.removeLastReach();
        river.restoreSnapshot();
        CHECK.due("the line outlives changes, undo and snapshots", Check.line(river, 12), "0=0/1@0 f100");
        CHECK.due("writeRiver() replaces it", Check.line(river, river.writeRiver()), "0");
        CHECK.outOfBounds("lineCharacter(1)", () -> river.lineCharacter(1));
    }
}
