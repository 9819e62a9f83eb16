/** Promises 39 to 44 and the term 'Texts': a test for each sentence that names an edge. */
public final class TextsEdgesTest {
    private static final Check CHECK = new Check("TextsEdgesTest");
    private static final String FOURTEEN_CUTS = "cut;cut;cut;cut;cut;cut;cut;cut;cut;cut;cut;cut;cut;cut";

    /** Each command with numbers of three digits; the text ends too early before the last number has a digit. */
    private static final String[] COMMANDS = {
        "reach 001 020 030", "lateral 0 001", "fill 0 001", "stages 0 020 040", "gate 0 001", "pulse 000 001 001",
        "pass 001"
    };

    public static void main(String[] args) {
        feed();
        execute();
        grammar();
        faultPosition();
        failedCommands();
        bufferIsEmptyAfterwards();
        writeReach();
        writeRiver();
        lineCharacter();
        CHECK.finish();
    }

    // ---- promise 39

    private static void feed() {
        feedAnswersTheLengthAfterwards();
        feedTakesAnyCharacter();
        feedRefusesThe61stCharacter();
        refusedCharacterIsNotInTheText();
    }

    private static void feedAnswersTheLengthAfterwards() {
        RiverReaches river = new RiverReaches();
        for (int length = 1; length <= 60; length++) {
            CHECK.due("feed('c')", river.feed('c'), length);
        }
    }

    private static void feedTakesAnyCharacter() {
        RiverReaches river = new RiverReaches();
        int length = 0;
        for (int sign : new int[] {0, 1, '\n', ' ', ';', 'c', 127, 128, 255, 256, 0xd800, 65535}) {
            length++;
            CHECK.due("feed(sign " + sign + ")", river.feed((char) sign), length);
        }
    }

    private static void feedRefusesThe61stCharacter() {
        RiverReaches river = new RiverReaches();
        Check.feed(river, FOURTEEN_CUTS + ";cut;");
        CHECK.illegalState("feed number 61", () -> river.feed('c'));
        CHECK.illegalState("feed number 61 again", () -> river.feed(';'));
        CHECK.illegal("execute() of a full buffer that ends too early", river::execute);
        CHECK.due("feed() after it", river.feed('c'), 1);
    }

    private static void refusedCharacterIsNotInTheText() {
        RiverReaches river = Check.row(1);
        Check.feed(river, "pass 1;pass 1;pass 1;pass 1;pass 1;pass 1;pass 1;pass 1;pass");
        CHECK.illegalState("feed(' ') number 61", () -> river.feed(' '));
        CHECK.illegal("execute() without it", river::execute);
        CHECK.due("faultPosition() without it", river.faultPosition(), 60);
        Check.feed(river, "pass 1;pass 1;pass 1;pass 1;pass 1;pass 1;pass 1;pass 1;cut ");
        CHECK.illegalState("feed('x') number 61", () -> river.feed('x'));
        CHECK.illegal("execute() without it", river::execute);
        CHECK.due("faultPosition() without it", river.faultPosition(), 59);
        Check.feed(river, "pass 1;pass 1;pass 1;pass 1;pass 1;pass 1;pass 1;pass 01;cut");
        CHECK.illegalState("feed('x') number 61", () -> river.feed('x'));
        CHECK.due("execute() without it", river.execute(), 9);
    }

    // ---- promise 40

    private static void execute() {
        executeAnswersTheNumberOfCommands();
        textOfSixtyCharacters();
        textOfFifteenCommands();
        commandsAreInTheirOrder();
        parametersAreInTheirOrder();
        commandsBeforeAreSeen();
    }

    private static void executeAnswersTheNumberOfCommands() {
        CHECK.due("one command", Check.run(new RiverReaches(), "reach 1 5 1"), 1);
        CHECK.due("two commands", Check.run(new RiverReaches(), "reach 1 5 1;cut"), 2);
        CHECK.due("five commands", Check.run(new RiverReaches(), "reach 1 5 1;cut;pulse 0 1 1;reach 1 5 1;pass 1"), 5);
    }

    private static void textOfSixtyCharacters() {
        RiverReaches river = new RiverReaches();
        Check.feed(river, "reach 50 60 500;fill 0 999;stages 0 998 999;pulse 0 24 2;cut");
        CHECK.illegalState("feed number 61", () -> river.feed(';'));
        CHECK.due("sixty characters", river.execute(), 5);
        CHECK.due("totalOut() of the removed reach", river.totalOut(), 999);
        CHECK.due("headInflow(23)", river.headInflow(23), 2);
    }

    private static void textOfFifteenCommands() {
        RiverReaches river = Check.row(8);
        CHECK.failedCommand(river, FOURTEEN_CUTS + ";cut", 8, 3, 0);
        CHECK.due("reachCount() after it", river.reachCount(), 8);
        CHECK.due("eight commands", Check.run(river, "cut;cut;cut;cut;cut;cut;cut;cut"), 8);
        CHECK.due("reachCount() after them", river.reachCount(), 0);
    }

    private static void commandsAreInTheirOrder() {
        RiverReaches river = new RiverReaches();
        Check.run(river, "reach 10 20 30;fill 0 100;pass 1;lateral 0 9;pass 1");
        CHECK.due("volume(0)", river.volume(0), 80 + 9 - 16);
        CHECK.due("hour()", river.hour(), 2);
    }

    private static void parametersAreInTheirOrder() {
        RiverReaches river = new RiverReaches();
        Check.run(river, "reach 7 50 5;fill 0 9;stages 0 3 4;pulse 1 2 3");
        CHECK.due("outflow(0) by the percentage", river.outflow(0), 4);
        CHECK.due("level(0) by the surface", river.level(0), 1);
        CHECK.due("headInflow(0)", river.headInflow(0), 0);
        CHECK.due("headInflow(2)", river.headInflow(2), 3);
        CHECK.due("headInflow(3)", river.headInflow(3), 0);
        CHECK.due("fill 0 12", Check.run(river, "fill 0 12"), 1);
        CHECK.due("outflow(0) by the capacity", river.outflow(0), 5);
        CHECK.due("status(0) at the warning level", river.status(0), 1);
        CHECK.due("roomBelowFlood(0)", river.roomBelowFlood(0), 6);
    }

    private static void commandsBeforeAreSeen() {
        RiverReaches river = new RiverReaches();
        CHECK.failedCommand(river, "fill 0 9;reach 1 5 1", 0, 6, 0);
        CHECK.due("reach and fill", Check.run(river, "reach 1 5 1;fill 0 9"), 2);
        CHECK.failedCommand(river, "lateral 0 4;lateral 0 4", 1, 4, 4);
        CHECK.due("there and back", Check.run(river, "lateral 0 4;lateral 0 0"), 2);
    }

    // ---- 'Texts': the grammar

    private static void grammar() {
        numbersOfOneToThreeDigits();
        digitsFrom0To9();
        lettersOfTheRules();
        signsThatBelongNowhere();
        textsThatEndTooEarly();
        textsThatEndTooEarlyBehindAnother();
        separators();
        spaces();
        signsBesideTheAllowedOnes();
        wordsThatShareTheirBeginning();
    }

    private static void numbersOfOneToThreeDigits() {
        for (String number : new String[] {"7", "07", "007"}) {
            RiverReaches river = Check.row(1);
            CHECK.due("fill 0 " + number, Check.run(river, "fill 0 " + number), 1);
            CHECK.due("volume(0)", river.volume(0), 7);
        }
        for (String command : COMMANDS) {
            RiverReaches river = Check.row(1);
            CHECK.due(command, Check.run(river, command), 1);
            CHECK.fault(river, command + "0", command.length());
        }
        CHECK.fault(Check.row(1), "reach 0001 20 30", 9);
        CHECK.fault(Check.row(1), "reach 1 0020 30", 11);
        CHECK.fault(Check.row(1), "stages 0 0020 40", 12);
        CHECK.fault(Check.row(1), "pulse 0 0001 1", 11);
        CHECK.failedCommand(Check.row(1), "fill 0 000", 0, 6, 0);
        CHECK.due("fill 0 999", Check.run(Check.row(1), "fill 0 999"), 1);
    }

    private static void digitsFrom0To9() {
        for (int digit = 0; digit <= 9; digit++) {
            RiverReaches river = Check.row(8);
            String text = "fill " + digit + " 5";
            if (digit < 8) {
                CHECK.due(text, Check.run(river, text), 1);
                CHECK.due("volume(" + digit + ")", river.volume(digit), 5);
            } else {
                CHECK.failedCommand(river, text, 0, 6, 0);
            }
        }
        for (String word : new String[] {"lateral ", "fill ", "stages ", "gate ", "rule "}) {
            CHECK.fault(new RiverReaches(), word + "00 1", word.length() + 1);
            CHECK.fault(new RiverReaches(), word + " 1", word.length());
        }
    }

    private static void lettersOfTheRules() {
        for (char letter : new char[] {'h', 'r'}) {
            RiverReaches river = Check.row(1);
            CHECK.due("rule 0 " + letter, Check.run(river, "rule 0 " + letter), 1);
            CHECK.due("rule(0)", river.rule(0), letter);
            CHECK.due("rule 0 f", Check.run(river, "rule 0 f"), 1);
            CHECK.due("rule(0)", river.rule(0), 'f');
        }
        for (char letter : new char[] {'e', 'g', 'i', 'q', 's', 'F', 'H', 'R', '0', ' ', ';', 0, 'f' + 256}) {
            CHECK.fault(Check.row(1), "rule 0 " + letter, 7);
        }
        CHECK.fault(Check.row(1), "rule 0 hh", 8);
        CHECK.fault(Check.row(1), "rule 0 h ", 8);
    }

    /** A sign of no text at each place of each command, also behind another command. */
    private static void signsThatBelongNowhere() {
        for (String command : COMMANDS) {
            spoilEachPlace("", command);
            spoilEachPlace("cut;", command);
        }
        spoilEachPlace("", "cut");
        spoilEachPlace("rule 0 h;", "rule 0 r");
    }

    private static void spoilEachPlace(String before, String command) {
        for (int place = 0; place <= command.length(); place++) {
            RiverReaches river = new RiverReaches();
            String good = before + command.substring(0, place);
            CHECK.fault(river, good + (char) 1, good.length());
            CHECK.fault(river, good + (char) 65535 + command, good.length());
        }
    }

    private static void textsThatEndTooEarly() {
        for (String command : COMMANDS) {
            for (int length = 0; length < command.length() - 2; length++) {
                CHECK.fault(new RiverReaches(), command.substring(0, length), length);
            }
        }
        CHECK.fault(new RiverReaches(), "cu", 2);
        CHECK.fault(new RiverReaches(), "rule 0", 6);
        CHECK.fault(new RiverReaches(), "rule 0 ", 7);
    }

    private static void textsThatEndTooEarlyBehindAnother() {
        CHECK.fault(new RiverReaches(), "cut;", 4);
        CHECK.fault(new RiverReaches(), "cut;r", 5);
        CHECK.fault(new RiverReaches(), "cut;cut;gate 1 ", 15);
        CHECK.fault(new RiverReaches(), FOURTEEN_CUTS + ";cut;", 60);
        CHECK.fault(new RiverReaches(), FOURTEEN_CUTS + ";pass", 60);
        CHECK.fault(new RiverReaches(), FOURTEEN_CUTS + ";cu", 58);
        CHECK.fault(new RiverReaches(), FOURTEEN_CUTS + ";cutc", 59);
    }

    private static void separators() {
        CHECK.fault(new RiverReaches(), ";", 0);
        CHECK.fault(new RiverReaches(), ";cut", 0);
        CHECK.fault(new RiverReaches(), "cut;;", 4);
        CHECK.fault(new RiverReaches(), "cut:cut", 3);
        CHECK.fault(new RiverReaches(), "cut\ncut", 3);
        CHECK.fault(new RiverReaches(), "cutcut", 3);
        CHECK.fault(new RiverReaches(), "pass 1cut", 6);
    }

    private static void spaces() {
        CHECK.fault(new RiverReaches(), " cut", 0);
        CHECK.fault(new RiverReaches(), "cut ", 3);
        CHECK.fault(new RiverReaches(), "cut; cut", 4);
        CHECK.fault(new RiverReaches(), "pass  1", 5);
        CHECK.fault(new RiverReaches(), "pass 1 ;cut", 6);
        CHECK.fault(new RiverReaches(), "pass1", 4);
        CHECK.fault(new RiverReaches(), "pass\t1", 4);
        CHECK.fault(new RiverReaches(), "fill 0  1", 7);
        CHECK.fault(new RiverReaches(), "fill 0\u00a01", 6);
        CHECK.fault(new RiverReaches(), "reach 1 2  3", 10);
        CHECK.fault(new RiverReaches(), "reach 1 2 3 4", 11);
    }

    private static void signsBesideTheAllowedOnes() {
        CHECK.fault(new RiverReaches(), "pass /", 5);
        CHECK.fault(new RiverReaches(), "pass :", 5);
        CHECK.fault(new RiverReaches(), "pass 1/", 6);
        CHECK.fault(new RiverReaches(), "pass 1:", 6);
        CHECK.fault(new RiverReaches(), "fill / 1", 5);
        CHECK.fault(new RiverReaches(), "fill : 1", 5);
        CHECK.fault(new RiverReaches(), "pass -1", 5);
        CHECK.fault(new RiverReaches(), "pass +1", 5);
        CHECK.fault(new RiverReaches(), "Pass 1", 0);
        CHECK.fault(new RiverReaches(), "pasS 1", 3);
        CHECK.fault(new RiverReaches(), "pass " + (char) ('1' + 256), 5);
        CHECK.fault(new RiverReaches(), "cu" + (char) ('t' + 256), 2);
        CHECK.fault(new RiverReaches(), "cut" + (char) (';' + 256) + "cut", 3);
    }

    private static void wordsThatShareTheirBeginning() {
        CHECK.fault(new RiverReaches(), "rach 1 5 1", 1);
        CHECK.fault(new RiverReaches(), "rele 0 f", 2);
        CHECK.fault(new RiverReaches(), "ruach 1 5 1", 2);
        CHECK.fault(new RiverReaches(), "pus", 2);
        CHECK.fault(new RiverReaches(), "palse", 2);
        CHECK.fault(new RiverReaches(), "gall", 2);
        CHECK.fault(new RiverReaches(), "latera", 6);
        CHECK.fault(new RiverReaches(), "stage ", 5);
        CHECK.fault(new RiverReaches(), "fills", 4);
        CHECK.fault(new RiverReaches(), "cuts", 3);
    }

    // ---- promise 41

    private static void faultPosition() {
        noFaultWasKeptYet();
        faultOfAnEmptyText();
        faultIsKeptUntilTheNextOne();
        faultLeavesTheRiverAsItWas();
        faultComesBeforeAFailedCommand();
    }

    private static void noFaultWasKeptYet() {
        RiverReaches river = new RiverReaches();
        CHECK.noSuchElement("faultPosition() of a new river", river::faultPosition);
        Check.run(river, "reach 1 5 1");
        CHECK.noSuchElement("faultPosition() after a good text", river::faultPosition);
        CHECK.failedCommand(river, "fill 1 1", 0, 6, 0);
        CHECK.noSuchElement("faultPosition() after a failed text", river::faultPosition);
        river.feed('x');
        CHECK.noSuchElement("faultPosition() before the text is executed", river::faultPosition);
    }

    private static void faultOfAnEmptyText() {
        RiverReaches river = new RiverReaches();
        CHECK.illegal("execute() of an empty text", river::execute);
        CHECK.due("faultPosition()", river.faultPosition(), 0);
        CHECK.noSuchElement("denial() after it", river::denial);
        CHECK.fault(river, "cut;x", 4);
        CHECK.fault(river, "", 0);
    }

    private static void faultIsKeptUntilTheNextOne() {
        RiverReaches river = new RiverReaches();
        CHECK.fault(river, "reach 1 5 x", 10);
        Check.run(river, "reach 1 5 1");
        CHECK.failedCommand(river, "fill 1 1", 0, 6, 0);
        river.undo();
        river.saveSnapshot();
        river.restoreSnapshot();
        CHECK.due("faultPosition() kept", river.faultPosition(), 10);
        CHECK.fault(river, "cx", 1);
    }

    private static void faultLeavesTheRiverAsItWas() {
        RiverReaches river = Check.row(1);
        String before = Check.state(river);
        CHECK.fault(river, "fill 0 9;pulse 0 1 1;pass 3;cut;cux", 34);
        CHECK.due("the state after a fault", Check.state(river), before);
        CHECK.noSuchElement("denial() after a fault", river::denial);
    }

    private static void faultComesBeforeAFailedCommand() {
        RiverReaches river = new RiverReaches();
        CHECK.fault(river, "cut;cut;x", 8);
        CHECK.noSuchElement("denial() after it", river::denial);
    }

    // ---- denial 5

    private static void failedCommands() {
        firstAndLastCommandFail();
        causesThatAreDenials();
        causesOfDenialsInTheirOrder();
        causesThatAreOtherExceptions();
        noneOfTheCommandsOfAFailedText();
        detailOfTheMomentOfTheFailure();
    }

    private static RiverReaches full() {
        RiverReaches river = Check.row(8);
        for (int i = 0; i < 8; i++) {
            river.addPulse(5, 1, 1);
        }
        river.pass(3);
        return river;
    }

    private static void firstAndLastCommandFail() {
        CHECK.failedCommand(new RiverReaches(), "cut", 0, 3, 0);
        CHECK.failedCommand(new RiverReaches(), FOURTEEN_CUTS + ";cut", 0, 3, 0);
        RiverReaches river = Check.row(8);
        CHECK.failedCommand(river, "cut;cut;cut;cut;cut;cut;cut;cut;cut", 8, 3, 0);
        CHECK.failedCommand(river, "gate 0 1;gate 0 2;gate 0 3;gate 0 4;gate 0 5;gate 0 5", 5, 4, 5);
        CHECK.failedCommand(Check.row(1), "pass 1;pass 1;pass 1;pass 1;pass 1;pass 1;pass 1;pass 0", 7, 6, 0);
    }

    private static void causesThatAreDenials() {
        CHECK.failedCommand(full(), "reach 1 5 1", 0, 1, 8);
        CHECK.failedCommand(full(), "pulse 3 1 1", 0, 1, 8);
        CHECK.failedCommand(full(), "pulse 2 1 1", 0, 2, 3);
        CHECK.failedCommand(new RiverReaches(), "pass 1", 0, 3, 0);
        CHECK.failedCommand(full(), "lateral 7 0", 0, 4, 0);
        CHECK.failedCommand(full(), "gate 7 100", 0, 4, 100);
        CHECK.failedCommand(full(), "rule 7 f", 0, 4, 102);
        CHECK.failedCommand(full(), "rule 7 h;rule 7 h", 1, 4, 104);
        CHECK.failedCommand(full(), "rule 7 r;rule 7 r", 1, 4, 114);
    }

    private static void causesOfDenialsInTheirOrder() {
        CHECK.failedCommand(full(), "reach 0 5 1", 0, 6, 0);
        CHECK.failedCommand(full(), "pulse 2 25 1", 0, 6, 0);
        CHECK.failedCommand(full(), "gate 8 100", 0, 6, 0);
        CHECK.failedCommand(new RiverReaches(), "pass 49", 0, 6, 0);
        CHECK.failedCommand(new RiverReaches(), "lateral 0 0", 0, 6, 0);
    }

    private static void causesThatAreOtherExceptions() {
        for (String text : new String[] {"reach 51 5 1", "reach 1 4 1", "reach 1 61 1", "reach 1 5 0", "reach 1 5 501",
            "lateral 0 51", "lateral 1 1", "fill 0 0", "fill 1 1", "stages 0 0 2", "stages 0 999 999", "stages 0 5 5",
            "stages 1 5 6", "gate 0 101", "gate 1 5", "rule 1 h", "rule 9 h", "pulse 0 0 1", "pulse 0 25 1",
            "pulse 0 1 0", "pulse 0 1 201", "pass 0", "pass 49", "pass 999"}) {
            CHECK.failedCommand(Check.row(1), text, 0, 6, 0);
            CHECK.failedCommand(Check.row(1), "pass 1;" + text, 1, 6, 0);
        }
    }

    private static void noneOfTheCommandsOfAFailedText() {
        RiverReaches river = full();
        river.fill(0, 300);
        String before = Check.state(river);
        CHECK.failedCommand(river, "cut;reach 1 5 1;fill 7 9;pass 9;gate 0 9;gate 0 9", 5, 4, 9);
        CHECK.failedCommand(river, "lateral 0 9;stages 0 1 2;rule 0 h;pass 48;fill 9 9", 4, 6, 0);
        CHECK.due("the state after failed texts", Check.state(river), before);
        CHECK.due("undo() after failed texts", river.undo(), 7);
        CHECK.due("volume(0)", river.volume(0), 0);
    }

    private static void detailOfTheMomentOfTheFailure() {
        CHECK.failedCommand(Check.row(1), "pass 48;pass 2;pulse 49 1 1", 2, 2, 50);
        CHECK.failedCommand(Check.row(1), "pass 48;cut;cut", 2, 3, 48);
        CHECK.failedCommand(Check.row(1), "pass 7;cut;pass 1", 2, 3, 7);
    }

    private static void bufferIsEmptyAfterwards() {
        RiverReaches river = new RiverReaches();
        Check.run(river, "reach 1 5 1");
        CHECK.due("feed() after a good text", river.feed('x'), 1);
        CHECK.illegal("execute()", river::execute);
        CHECK.due("feed() after a fault", river.feed('p'), 1);
        Check.feed(river, "ass 0");
        CHECK.throwsDue("execute()", UnsupportedOperationException.class, river::execute);
        CHECK.due("feed() after a failed text", river.feed('c'), 1);
        Check.feed(river, "ut");
        CHECK.due("execute() of what came after it", river.execute(), 1);
        CHECK.illegal("execute() of nothing", river::execute);
        CHECK.due("feed() after an empty text", river.feed('c'), 1);
    }

    // ---- promise 42

    private static void writeReach() {
        CHECK.reachIndexes("writeReach()", Check::row, RiverReaches::writeReach);
        marksOfEachStatus();
        openingsOfALine();
        linesOfTheFirstAndTheLastReach();
        refusedLineLeavesTheOneBefore();
    }

    private static void reachLine(RiverReaches river, int reach, String due) {
        int length = river.writeReach(reach);
        CHECK.due("writeReach(" + reach + ")", length, due.length());
        CHECK.due("the line of reach " + reach, Check.line(river, length), due);
        CHECK.outOfBounds("lineCharacter(" + length + ")", () -> river.lineCharacter(length));
    }

    private static void marksOfEachStatus() {
        reachLine(Check.filled(10, 0), 0, "0=0/10@0 f100");
        reachLine(Check.filled(10, 199), 0, "0=199/10@19 f100");
        reachLine(Check.filled(10, 200), 0, "0=200/10@20! f100");
        reachLine(Check.filled(10, 399), 0, "0=399/10@39! f100");
        reachLine(Check.filled(10, 400), 0, "0=400/10@40!! f100");
        reachLine(Check.filled(50, 123456), 0, "0=123456/50@2469!! f100");
    }

    private static void openingsOfALine() {
        RiverReaches river = Check.row(3);
        river.fill(2, 340);
        river.setGate(2, 0);
        reachLine(river, 2, "2=340/10@34! f0");
        river.setGate(1, 99);
        river.setRule(1, 'h');
        reachLine(river, 1, "1=0/10@0 h99");
        river.fill(2, 60);
        reachLine(river, 1, "1=0/10@0 h49");
        river.setRule(2, 'r');
        reachLine(river, 2, "2=400/10@40!! r100");
    }

    private static void linesOfTheFirstAndTheLastReach() {
        RiverReaches river = Check.row(8);
        river.fill(7, 999);
        reachLine(river, 7, "7=999/10@99!! f100");
        reachLine(river, 0, "0=0/10@0 f100");
    }

    private static void refusedLineLeavesTheOneBefore() {
        RiverReaches river = Check.filled(10, 200);
        int length = river.writeReach(0);
        CHECK.outOfBounds("writeReach(1)", () -> river.writeReach(1));
        CHECK.outOfBounds("writeReach(-1)", () -> river.writeReach(-1));
        CHECK.due("the line after refusals", Check.line(river, length), "0=200/10@20! f100");
        CHECK.outOfBounds("lineCharacter(length)", () -> river.lineCharacter(length));
    }

    // ---- promise 43

    private static void writeRiver() {
        riverLine(new RiverReaches(), "");
        riverLine(Check.row(1), "0");
        riverLine(Check.row(2), "0>0");
        riverLine(Check.row(8), "0>0>0>0>0>0>0>0");
        riverLine(Check.filled(1, 39), "39");
        riverLine(Check.filled(1, 40), "40!");
        RiverReaches river = Check.row(3);
        river.fill(0, 120);
        river.fill(1, 450);
        riverLine(river, "12>45!>0");
        river.fill(2, 999);
        riverLine(river, "12>45!>99!");
        river.removeLastReach();
        riverLine(river, "12>45!");
        river.removeLastReach();
        river.removeLastReach();
        riverLine(river, "");
    }

    private static void riverLine(RiverReaches river, String due) {
        int length = river.writeRiver();
        CHECK.due("writeRiver()", length, due.length());
        CHECK.due("the line of the river", Check.line(river, length), due);
        CHECK.outOfBounds("lineCharacter(" + length + ")", () -> river.lineCharacter(length));
    }

    // ---- promise 44

    private static void lineCharacter() {
        lineIsEmptyAtFirst();
        lineHasItsIndexesAlone();
        emptyLineReplacesAnother();
        lineIsKept();
    }

    private static void lineIsEmptyAtFirst() {
        RiverReaches river = Check.row(8);
        for (int index : new int[] {-1, 0, 1, Integer.MAX_VALUE, Integer.MIN_VALUE}) {
            CHECK.outOfBounds("lineCharacter(" + index + ") at first", () -> river.lineCharacter(index));
        }
    }

    private static void lineHasItsIndexesAlone() {
        RiverReaches river = Check.filled(10, 400);
        river.writeRiver();
        CHECK.due("lineCharacter(0)", river.lineCharacter(0), '4');
        CHECK.due("lineCharacter(2)", river.lineCharacter(2), '!');
        for (int index : new int[] {-1, 3, 4, Integer.MAX_VALUE, Integer.MIN_VALUE}) {
            CHECK.outOfBounds("lineCharacter(" + index + ") of three", () -> river.lineCharacter(index));
        }
        CHECK.due("lineCharacter(2) after refusals", river.lineCharacter(2), '!');
    }

    private static void emptyLineReplacesAnother() {
        RiverReaches river = Check.row(1);
        river.writeReach(0);
        river.removeLastReach();
        CHECK.due("lineCharacter(0) of a removed reach", river.lineCharacter(0), '0');
        CHECK.due("writeRiver() of none", river.writeRiver(), 0);
        CHECK.outOfBounds("lineCharacter(0) of an empty line", () -> river.lineCharacter(0));
    }

    private static void lineIsKept() {
        RiverReaches river = Check.filled(10, 400);
        river.saveSnapshot();
        river.writeRiver();
        river.fill(0, 600);
        CHECK.due("the line after a change", Check.line(river, 3), "40!");
        river.undo();
        river.restoreSnapshot();
        Check.run(river, "cut");
        CHECK.fault(river, "x", 0);
        CHECK.due("the line after undo(), a snapshot and texts", Check.line(river, 3), "40!");
        CHECK.outOfBounds("lineCharacter(3)", () -> river.lineCharacter(3));
    }
}
