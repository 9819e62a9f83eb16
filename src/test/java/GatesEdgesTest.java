/** Promises 11 to 20 and the terms 'Levels' and 'Gates': a test for each sentence that names an edge. */
public final class GatesEdgesTest {
    private static final Check CHECK = new Check("GatesEdgesTest");

    public static void main(String[] args) {
        setStages();
        setGate();
        setRule();
        levels();
        openings();
        roomBelowFlood();
        reachByLevel();
        CHECK.finish();
    }

    // ---- promise 11

    private static void setStages() {
        warningFrom1To998();
        floodFrom2To999();
        floodIsGreaterThanTheWarning();
        stagesOfNoSuchReach();
        missingReachComesBeforeTheStages();
        stagesAnswerTheStatusAfterwards();
        presentStagesAreNotDenied();
        refusedStagesStayAsTheyWere();
    }

    private static void warningFrom1To998() {
        CHECK.range("setStages() with a warning level", 1, 998, () -> Check.row(1), (r, n) -> r.setStages(0, n, 999));
        CHECK.illegal("setStages(0, 0, 2)", () -> Check.row(1).setStages(0, 0, 2));
        CHECK.illegal("setStages(0, 999, 1000)", () -> Check.row(1).setStages(0, 999, 1000));
        RiverReaches river = Check.filled(1, 0);
        river.setStages(0, 1, 999);
        CHECK.due("status(0) below the warning level 1", river.status(0), 0);
        river.fill(0, 1);
        CHECK.due("status(0) at the warning level 1", river.status(0), 1);
        river.fill(0, 996);
        river.setStages(0, 998, 999);
        CHECK.due("status(0) below the warning level 998", river.status(0), 0);
        river.fill(0, 1);
        CHECK.due("status(0) at the warning level 998", river.status(0), 1);
    }

    private static void floodFrom2To999() {
        CHECK.range("setStages() with a flood level", 2, 999, () -> Check.row(1), (r, n) -> r.setStages(0, 1, n));
        CHECK.illegal("setStages(0, 998, 1000)", () -> Check.row(1).setStages(0, 998, 1000));
        RiverReaches river = Check.filled(1, 1);
        river.setStages(0, 1, 2);
        CHECK.due("isFlooded(0) below the flood level 2", river.isFlooded(0), false);
        river.fill(0, 1);
        CHECK.due("isFlooded(0) at the flood level 2", river.isFlooded(0), true);
        river.fill(0, 996);
        river.setStages(0, 998, 999);
        CHECK.due("isFlooded(0) below the flood level 999", river.isFlooded(0), false);
        river.fill(0, 1);
        CHECK.due("isFlooded(0) at the flood level 999", river.isFlooded(0), true);
    }

    private static void floodIsGreaterThanTheWarning() {
        RiverReaches river = Check.row(1);
        CHECK.accepted("setStages(0, 1, 2)", () -> river.setStages(0, 1, 2));
        CHECK.accepted("setStages(0, 998, 999)", () -> river.setStages(0, 998, 999));
        CHECK.accepted("setStages(0, 30, 31)", () -> river.setStages(0, 30, 31));
        CHECK.illegal("setStages(0, 30, 30)", () -> river.setStages(0, 30, 30));
        CHECK.illegal("setStages(0, 30, 29)", () -> river.setStages(0, 30, 29));
        CHECK.illegal("setStages(0, 2, 2)", () -> river.setStages(0, 2, 2));
        CHECK.illegal("setStages(0, 998, 998)", () -> river.setStages(0, 998, 998));
        CHECK.illegal("setStages(0, 998, 2)", () -> river.setStages(0, 998, 2));
    }

    private static void stagesOfNoSuchReach() {
        CHECK.reachIndexes("setStages()", Check::row, (r, index) -> r.setStages(index, 20, 40));
    }

    private static void missingReachComesBeforeTheStages() {
        CHECK.outOfBounds("setStages(0, 0, 0) of none", () -> new RiverReaches().setStages(0, 0, 0));
        CHECK.outOfBounds("setStages(1, 40, 20) of one reach", () -> Check.row(1).setStages(1, 40, 20));
    }

    private static void stagesAnswerTheStatusAfterwards() {
        RiverReaches river = Check.filled(10, 300);
        CHECK.due("setStages(0, 31, 32)", river.setStages(0, 31, 32), 0);
        CHECK.due("setStages(0, 30, 31)", river.setStages(0, 30, 31), 1);
        CHECK.due("setStages(0, 29, 30)", river.setStages(0, 29, 30), 2);
        CHECK.due("alarms() by stages", river.alarms(), 0);
    }

    private static void presentStagesAreNotDenied() {
        RiverReaches river = Check.row(1);
        CHECK.due("setStages(0, 20, 40) at first", river.setStages(0, 20, 40), 0);
        CHECK.due("setStages(0, 20, 40) again", river.setStages(0, 20, 40), 0);
        CHECK.noSuchElement("denial() after them", river::denial);
        CHECK.due("undoCount() after them", river.undoCount(), 3);
    }

    private static void refusedStagesStayAsTheyWere() {
        RiverReaches river = Check.filled(10, 299);
        river.setStages(0, 30, 50);
        CHECK.illegal("setStages(0, 10, 10)", () -> river.setStages(0, 10, 10));
        CHECK.illegal("setStages(0, 0, 20)", () -> river.setStages(0, 0, 20));
        CHECK.illegal("setStages(0, 10, 1000)", () -> river.setStages(0, 10, 1000));
        CHECK.due("status(0) with the warning level before", river.status(0), 0);
        CHECK.due("roomBelowFlood(0) with the flood level before", river.roomBelowFlood(0), 200);
    }

    // ---- promise 12

    private static RiverReaches halfOpen() {
        RiverReaches river = Check.row(1);
        river.setGate(0, 50);
        return river;
    }

    private static void setGate() {
        CHECK.range("setGate()", 0, 100, GatesEdgesTest::halfOpen, (r, number) -> r.setGate(0, number));
        CHECK.reachIndexes("setGate()", Check::row, (r, index) -> r.setGate(index, 99));
        CHECK.outOfBounds("setGate(0, 101) of none", () -> new RiverReaches().setGate(0, 101));
        CHECK.outOfBounds("setGate(-1, -1) of one reach", () -> Check.row(1).setGate(-1, -1));
        presentSettingIsDenied();
        missingReachIsNoDenial();
        settingBeforeIsAnswered();
    }

    private static void presentSettingIsDenied() {
        RiverReaches river = Check.row(1);
        river.pass(3);
        CHECK.denied(river, "setGate(0, 100) at first", 4, 100, () -> river.setGate(0, 100));
        river.setGate(0, 0);
        CHECK.denied(river, "setGate(0, 0) again", 4, 0, () -> river.setGate(0, 0));
        river.setGate(0, 1);
        CHECK.denied(river, "setGate(0, 1) again", 4, 1, () -> river.setGate(0, 1));
        river.setRule(0, 'r');
        river.fill(0, 999);
        CHECK.due("opening(0) by the rule", river.opening(0), 100);
        CHECK.due("setGate(0, 100) other than the setting", river.setGate(0, 100), 1);
    }

    private static void missingReachIsNoDenial() {
        RiverReaches river = Check.row(1);
        CHECK.outOfBounds("setGate(1, 100)", () -> river.setGate(1, 100));
        CHECK.outOfBounds("setRule(1, 'f')", () -> river.setRule(1, 'f'));
        CHECK.noSuchElement("denial() after them", river::denial);
    }

    private static void settingBeforeIsAnswered() {
        RiverReaches river = Check.row(8);
        CHECK.due("setGate(7, 0)", river.setGate(7, 0), 100);
        CHECK.due("setGate(7, 100)", river.setGate(7, 100), 0);
        CHECK.due("setGate(0, 99)", river.setGate(0, 99), 100);
        CHECK.due("opening(7)", river.opening(7), 100);
        CHECK.due("opening(0)", river.opening(0), 99);
        CHECK.due("opening(1)", river.opening(1), 100);
    }

    // ---- promises 13 and 18

    private static void setRule() {
        CHECK.reachIndexes("setRule()", Check::row, (r, index) -> r.setRule(index, 'h'));
        CHECK.reachIndexes("rule()", Check::row, RiverReaches::rule);
        thereAreThreeRules();
        missingReachComesBeforeTheRule();
        presentRuleIsDenied();
        ruleAnswersTheOpeningAfterwards();
        ruleOfOneReachOnly();
    }

    private static void thereAreThreeRules() {
        RiverReaches river = Check.row(1);
        CHECK.due("rule(0) at first", river.rule(0), 'f');
        for (char rule : new char[] {'h', 'r', 'f'}) {
            CHECK.accepted("setRule(0, '" + rule + "')", () -> river.setRule(0, rule));
            CHECK.due("rule(0)", river.rule(0), rule);
        }
        for (int sign : new int[] {0, ' ', '0', 'F', 'H', 'R', 'e', 'g', 'i', 'q', 's', 'f' + 128, 'h' + 256, 65535}) {
            CHECK.illegal("setRule(0, sign " + sign + ")", () -> river.setRule(0, (char) sign));
        }
        CHECK.due("rule(0) after refusals", river.rule(0), 'f');
    }

    private static void missingReachComesBeforeTheRule() {
        CHECK.outOfBounds("setRule(0, 'x') of none", () -> new RiverReaches().setRule(0, 'x'));
        CHECK.outOfBounds("setRule(-1, 'x') of one reach", () -> Check.row(1).setRule(-1, 'x'));
    }

    private static void presentRuleIsDenied() {
        RiverReaches river = Check.row(1);
        river.pass(3);
        CHECK.denied(river, "setRule(0, 'f') at first", 4, 102, () -> river.setRule(0, 'f'));
        river.setRule(0, 'h');
        CHECK.denied(river, "setRule(0, 'h') again", 4, 104, () -> river.setRule(0, 'h'));
        river.setRule(0, 'r');
        CHECK.denied(river, "setRule(0, 'r') again", 4, 114, () -> river.setRule(0, 'r'));
    }

    private static void ruleAnswersTheOpeningAfterwards() {
        RiverReaches river = Check.row(2);
        river.setGate(0, 61);
        river.fill(0, 400);
        river.fill(1, 400);
        CHECK.due("setRule(0, 'h') above a flood", river.setRule(0, 'h'), 30);
        CHECK.due("setRule(0, 'r') in flood", river.setRule(0, 'r'), 100);
        CHECK.due("setRule(0, 'f') in flood", river.setRule(0, 'f'), 61);
    }

    private static void ruleOfOneReachOnly() {
        RiverReaches river = Check.row(8);
        river.setRule(0, 'h');
        river.setRule(7, 'r');
        CHECK.due("rule(0)", river.rule(0), 'h');
        CHECK.due("rule(1)", river.rule(1), 'f');
        CHECK.due("rule(6)", river.rule(6), 'f');
        CHECK.due("rule(7)", river.rule(7), 'r');
    }

    // ---- promises 14 to 16

    private static void levels() {
        CHECK.reachIndexes("level()", Check::row, RiverReaches::level);
        CHECK.reachIndexes("status()", Check::row, RiverReaches::status);
        CHECK.reachIndexes("isFlooded()", Check::row, (r, index) -> r.isFlooded(index) ? 1 : 0);
        levelIsRoundedDown();
        statusAtTheStages();
        statusOfTheLevelNotOfTheVolume();
        lastOfEightReaches();
    }

    private static void levelIsRoundedDown() {
        CHECK.due("level(0) of no water", Check.filled(50, 0).level(0), 0);
        CHECK.due("level(0) of 49 over 50", Check.filled(50, 49).level(0), 0);
        CHECK.due("level(0) of 50 over 50", Check.filled(50, 50).level(0), 1);
        CHECK.due("level(0) of 99 over 50", Check.filled(50, 99).level(0), 1);
        CHECK.due("level(0) of 1 over 1", Check.filled(1, 1).level(0), 1);
    }

    private static void statusAtTheStages() {
        int[] volumes = {0, 19, 20, 39, 40, 5000};
        int[] due = {0, 0, 1, 1, 2, 2};
        for (int i = 0; i < volumes.length; i++) {
            RiverReaches river = Check.filled(1, volumes[i]);
            CHECK.due("status(0) of " + volumes[i], river.status(0), due[i]);
            CHECK.due("isFlooded(0) of " + volumes[i], river.isFlooded(0), due[i] == 2);
        }
    }

    private static void statusOfTheLevelNotOfTheVolume() {
        CHECK.due("status(0) of 199 over 10", Check.filled(10, 199).status(0), 0);
        CHECK.due("status(0) of 200 over 10", Check.filled(10, 200).status(0), 1);
        CHECK.due("status(0) of 399 over 10", Check.filled(10, 399).status(0), 1);
        CHECK.due("status(0) of 400 over 10", Check.filled(10, 400).status(0), 2);
        CHECK.due("status(0) of 1999 over 50", Check.filled(50, 1999).status(0), 1);
        CHECK.due("status(0) of 2000 over 50", Check.filled(50, 2000).status(0), 2);
    }

    private static void lastOfEightReaches() {
        RiverReaches river = Check.row(8);
        river.fill(7, 400);
        CHECK.due("level(7)", river.level(7), 40);
        CHECK.due("status(7)", river.status(7), 2);
        CHECK.due("isFlooded(7)", river.isFlooded(7), true);
        CHECK.due("status(6)", river.status(6), 0);
    }

    // ---- promise 17

    private static void openings() {
        CHECK.reachIndexes("opening()", Check::row, RiverReaches::opening);
        halfOfTheSettingIsRoundedDown();
        holdLooksAtTheNextReachAlone();
        holdOfTheLastReach();
        releaseLooksAtItsOwnReachAlone();
        fixedIsTheSetting();
    }

    private static void halfOfTheSettingIsRoundedDown() {
        int[] settings = {100, 99, 2, 1, 0};
        int[] due = {50, 49, 1, 0, 0};
        for (int i = 0; i < settings.length; i++) {
            RiverReaches river = Check.row(2);
            river.fill(1, 400);
            river.setRule(0, 'h');
            if (settings[i] != 100) {
                river.setGate(0, settings[i]);
            }
            CHECK.due("opening(0) on hold at " + settings[i], river.opening(0), due[i]);
        }
    }

    private static void holdLooksAtTheNextReachAlone() {
        RiverReaches river = Check.row(3);
        river.setGate(0, 80);
        river.setRule(0, 'h');
        CHECK.due("opening(0) above the status 0", river.opening(0), 80);
        river.fill(1, 399);
        CHECK.due("opening(0) above the status 1", river.opening(0), 80);
        river.fill(0, 999);
        CHECK.due("opening(0) in flood itself", river.opening(0), 80);
        river.fill(2, 999);
        CHECK.due("opening(0) above the next but one in flood", river.opening(0), 80);
        river.fill(1, 1);
        CHECK.due("opening(0) above the status 2", river.opening(0), 40);
    }

    private static void holdOfTheLastReach() {
        RiverReaches river = Check.row(8);
        for (int index = 0; index < 8; index++) {
            river.fill(index, 999);
        }
        river.setRule(7, 'h');
        river.setRule(6, 'h');
        CHECK.due("opening(7) on hold without a next reach", river.opening(7), 100);
        CHECK.due("opening(6) on hold with a next reach", river.opening(6), 50);
        river.removeLastReach();
        CHECK.due("opening(6) on hold without the removed reach", river.opening(6), 100);
        river.addReach(10, 20, 30);
        CHECK.due("opening(6) on hold above a new reach", river.opening(6), 100);
    }

    private static void releaseLooksAtItsOwnReachAlone() {
        RiverReaches river = Check.row(2);
        river.setGate(0, 0);
        river.setRule(0, 'r');
        river.fill(1, 999);
        CHECK.due("opening(0) of the status 0", river.opening(0), 0);
        river.fill(0, 399);
        CHECK.due("opening(0) of the status 1", river.opening(0), 0);
        river.fill(0, 1);
        CHECK.due("opening(0) of the status 2", river.opening(0), 100);
    }

    private static void fixedIsTheSetting() {
        RiverReaches river = Check.row(2);
        river.fill(0, 999);
        river.fill(1, 999);
        CHECK.due("opening(0), fixed in flood, at first", river.opening(0), 100);
        river.setGate(0, 0);
        CHECK.due("opening(0), fixed in flood, closed", river.opening(0), 0);
    }

    // ---- promise 19

    private static void roomBelowFlood() {
        CHECK.reachIndexes("roomBelowFlood()", Check::row, RiverReaches::roomBelowFlood);
        roomIsTheGreatestThatBringsNoFlood();
        roomOfNone();
        noRoomInFlood();
        missingReachComesBeforeTheFlood();
        roomAtTheEndsOfTheStages();
    }

    private static void roomIsTheGreatestThatBringsNoFlood() {
        RiverReaches river = Check.filled(10, 7);
        CHECK.due("roomBelowFlood(0) of 7", river.roomBelowFlood(0), 392);
        river.fill(0, 392);
        CHECK.due("isFlooded(0) with the room filled", river.isFlooded(0), false);
        river.undo();
        river.fill(0, 393);
        CHECK.due("isFlooded(0) with one more", river.isFlooded(0), true);
    }

    private static void roomOfNone() {
        RiverReaches river = Check.filled(10, 399);
        CHECK.due("roomBelowFlood(0) just below the flood", river.roomBelowFlood(0), 0);
    }

    private static void noRoomInFlood() {
        RiverReaches river = Check.filled(10, 400);
        CHECK.noSuchElement("roomBelowFlood(0) at the flood level", () -> river.roomBelowFlood(0));
        river.fill(0, 999);
        CHECK.noSuchElement("roomBelowFlood(0) above the flood level", () -> river.roomBelowFlood(0));
        river.setStages(0, 20, 140);
        CHECK.due("roomBelowFlood(0) below a new flood level", river.roomBelowFlood(0), 0);
    }

    private static void missingReachComesBeforeTheFlood() {
        RiverReaches river = Check.filled(10, 400);
        CHECK.outOfBounds("roomBelowFlood(1)", () -> river.roomBelowFlood(1));
    }

    private static void roomAtTheEndsOfTheStages() {
        RiverReaches least = Check.filled(1, 0);
        least.setStages(0, 1, 2);
        CHECK.due("roomBelowFlood(0) at its least stages", least.roomBelowFlood(0), 1);
        RiverReaches greatest = Check.filled(50, 0);
        greatest.setStages(0, 998, 999);
        CHECK.due("roomBelowFlood(0) at its greatest stages", greatest.roomBelowFlood(0), 49949);
    }

    // ---- promise 20

    private static void reachByLevel() {
        noRankOutsideTheReaches();
        higherLevelComesFirst();
        greaterVolumeComesFirstOfEqualLevels();
        smallerIndexComesFirstOfEqualVolumes();
        ranksOfEightReaches();
        removedReachHasNoRank();
    }

    private static void noRankOutsideTheReaches() {
        for (int count : new int[] {0, 1, 8}) {
            RiverReaches river = Check.row(count);
            for (int rank : new int[] {-1, count, 8, Integer.MIN_VALUE, Integer.MAX_VALUE}) {
                CHECK.noSuchElement("reachByLevel(" + rank + ") of " + count, () -> river.reachByLevel(rank));
            }
            if (count > 0) {
                CHECK.accepted("reachByLevel(0) of " + count, () -> river.reachByLevel(0));
                CHECK.accepted("reachByLevel(last) of " + count, () -> river.reachByLevel(count - 1));
            }
        }
    }

    private static void higherLevelComesFirst() {
        RiverReaches river = new RiverReaches();
        river.addReach(50, 5, 1);
        river.addReach(1, 5, 1);
        river.fill(0, 99);
        river.fill(1, 2);
        CHECK.due("reachByLevel(0), the higher level of less water", river.reachByLevel(0), 1);
        CHECK.due("reachByLevel(1)", river.reachByLevel(1), 0);
    }

    private static void greaterVolumeComesFirstOfEqualLevels() {
        RiverReaches river = new RiverReaches();
        river.addReach(1, 5, 1);
        river.addReach(50, 5, 1);
        river.addReach(50, 5, 1);
        river.fill(0, 1);
        river.fill(1, 50);
        river.fill(2, 51);
        CHECK.due("reachByLevel(0), the greatest volume", river.reachByLevel(0), 2);
        CHECK.due("reachByLevel(1)", river.reachByLevel(1), 1);
        CHECK.due("reachByLevel(2), the least volume", river.reachByLevel(2), 0);
    }

    private static void smallerIndexComesFirstOfEqualVolumes() {
        RiverReaches river = new RiverReaches();
        river.addReach(10, 5, 1);
        river.addReach(9, 5, 1);
        river.addReach(10, 5, 1);
        for (int index = 0; index < 3; index++) {
            river.fill(index, 10);
        }
        for (int rank = 0; rank < 3; rank++) {
            CHECK.due("reachByLevel(" + rank + ") of equal volumes", river.reachByLevel(rank), rank);
        }
    }

    private static void ranksOfEightReaches() {
        RiverReaches river = Check.row(8);
        for (int rank = 0; rank < 8; rank++) {
            CHECK.due("reachByLevel(" + rank + ") of eight empty ones", river.reachByLevel(rank), rank);
        }
        for (int index = 0; index < 8; index++) {
            river.fill(index, 10 + 10 * index);
        }
        for (int rank = 0; rank < 8; rank++) {
            CHECK.due("reachByLevel(" + rank + ") of eight rising ones", river.reachByLevel(rank), 7 - rank);
        }
    }

    private static void removedReachHasNoRank() {
        RiverReaches river = Check.row(3);
        river.fill(2, 999);
        river.fill(1, 20);
        CHECK.due("reachByLevel(0) before the removal", river.reachByLevel(0), 2);
        river.removeLastReach();
        CHECK.due("reachByLevel(0) after the removal", river.reachByLevel(0), 1);
        CHECK.due("reachByLevel(1) after the removal", river.reachByLevel(1), 0);
        CHECK.noSuchElement("reachByLevel(2) after the removal", () -> river.reachByLevel(2));
    }
}
