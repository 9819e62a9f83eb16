/** Promises 21 to 27 and the terms 'Pulses' and 'One hour': a test for each sentence that names an edge. */
public final class HoursEdgesTest {
    private static final Check CHECK = new Check("HoursEdgesTest");

    public static void main(String[] args) {
        addPulse();
        pass();
        oneHour();
        alarms();
        hourCounter();
        pulseCount();
        headInflow();
        pendingInflow();
        CHECK.finish();
    }

    // ---- promise 21

    private static void addPulse() {
        CHECK.range("addPulse() with an hour", 0, 999, RiverReaches::new, (r, number) -> r.addPulse(number, 1, 1));
        CHECK.range("addPulse() with hours", 1, 24, RiverReaches::new, (r, number) -> r.addPulse(0, number, 1));
        CHECK.range("addPulse() with a rate", 1, 200, RiverReaches::new, (r, number) -> r.addPulse(0, 1, number));
        pulseIsInEachOfItsHoursAlone();
        pulseOfTwentyFourHours();
        pulsesAreCounted();
        firstHourMayBeThePresentOne();
        passedFirstHourIsDenied();
        ninthPulseIsDenied();
        numberOutOfRangeComesBeforeThePassedHour();
        passedHourComesBeforeTheLimit();
        endedPulsesMakeRoom();
        afterHour999EachFirstHourHasPassed();
    }

    private static void pulseIsInEachOfItsHoursAlone() {
        RiverReaches river = new RiverReaches();
        river.addPulse(5, 1, 200);
        CHECK.due("headInflow(4) before it", river.headInflow(4), 0);
        CHECK.due("headInflow(5) in it", river.headInflow(5), 200);
        CHECK.due("headInflow(6) after it", river.headInflow(6), 0);
    }

    private static void pulseOfTwentyFourHours() {
        RiverReaches river = new RiverReaches();
        river.addPulse(999, 24, 1);
        CHECK.due("headInflow(998)", river.headInflow(998), 0);
        CHECK.due("headInflow(999)", river.headInflow(999), 1);
        CHECK.due("headInflow(1022)", river.headInflow(1022), 1);
        CHECK.due("headInflow(1023)", river.headInflow(1023), 0);
    }

    private static void pulsesAreCounted() {
        RiverReaches river = new RiverReaches();
        for (int count = 1; count <= 8; count++) {
            CHECK.due("addPulse()", river.addPulse(0, 1, 25), count);
            CHECK.due("pulseCount()", river.pulseCount(), count);
            CHECK.due("headInflow(0)", river.headInflow(0), 25 * count);
        }
    }

    private static RiverReaches atHourFive() {
        RiverReaches river = Check.row(1);
        river.pass(5);
        return river;
    }

    private static void firstHourMayBeThePresentOne() {
        RiverReaches river = atHourFive();
        CHECK.due("addPulse(5, 1, 9) at hour 5", river.addPulse(5, 1, 9), 1);
        CHECK.due("inflow(0)", river.inflow(0), 9);
    }

    private static void passedFirstHourIsDenied() {
        RiverReaches river = atHourFive();
        CHECK.denied(river, "addPulse(4, 24, 9) at hour 5", 2, 5, () -> river.addPulse(4, 24, 9));
        CHECK.denied(river, "addPulse(0, 1, 9) at hour 5", 2, 5, () -> river.addPulse(0, 1, 9));
        CHECK.due("pulseCount() after it", river.pulseCount(), 0);
        CHECK.due("headInflow(5) after it", river.headInflow(5), 0);
    }

    private static RiverReaches withEightPulses(RiverReaches river, int hour) {
        for (int i = 0; i < 8; i++) {
            river.addPulse(hour, 2, 10);
        }
        return river;
    }

    private static void ninthPulseIsDenied() {
        RiverReaches river = withEightPulses(atHourFive(), 7);
        CHECK.denied(river, "ninth addPulse()", 1, 8, () -> river.addPulse(7, 2, 10));
        CHECK.due("pulseCount() after the ninth", river.pulseCount(), 8);
        CHECK.due("headInflow(7) after the ninth", river.headInflow(7), 80);
    }

    private static void numberOutOfRangeComesBeforeThePassedHour() {
        RiverReaches river = withEightPulses(atHourFive(), 7);
        CHECK.illegal("addPulse(-1, 1, 1) at hour 5", () -> river.addPulse(-1, 1, 1));
        CHECK.illegal("addPulse(4, 25, 1) at hour 5", () -> river.addPulse(4, 25, 1));
        CHECK.illegal("addPulse(4, 1, 201) at hour 5", () -> river.addPulse(4, 1, 201));
        CHECK.noSuchElement("denial() after numbers out of range", river::denial);
    }

    private static void passedHourComesBeforeTheLimit() {
        RiverReaches river = withEightPulses(atHourFive(), 7);
        CHECK.denied(river, "ninth addPulse(4, 1, 1)", 2, 5, () -> river.addPulse(4, 1, 1));
    }

    private static void endedPulsesMakeRoom() {
        RiverReaches river = withEightPulses(Check.row(1), 0);
        river.pass(1);
        CHECK.denied(river, "addPulse() in their last hour", 1, 8, () -> river.addPulse(1, 1, 1));
        river.pass(1);
        CHECK.due("addPulse() after their last hour", river.addPulse(2, 1, 1), 1);
        CHECK.due("headInflow(2)", river.headInflow(2), 1);
    }

    private static void afterHour999EachFirstHourHasPassed() {
        RiverReaches river = Check.row(1);
        Check.passAll(river, 999);
        CHECK.due("addPulse(999, 24, 200) at hour 999", river.addPulse(999, 24, 200), 1);
        river.pass(1);
        CHECK.denied(river, "addPulse(999, 1, 1) at hour 1000", 2, 1000, () -> river.addPulse(999, 1, 1));
        CHECK.illegal("addPulse(1000, 1, 1) at hour 1000", () -> river.addPulse(1000, 1, 1));
        CHECK.due("totalIn() by its first hour", river.totalIn(), 200);
        river.pass(22);
        CHECK.due("pulseCount() in its last hour", river.pulseCount(), 1);
        river.pass(1);
        CHECK.due("pulseCount() after its last hour", river.pulseCount(), 0);
        CHECK.due("totalIn() by all of it", river.totalIn(), 4800);
        CHECK.due("hour() after it", river.hour(), 1023);
    }

    // ---- promise 22

    private static void pass() {
        CHECK.range("pass()", 1, 48, () -> Check.row(1), RiverReaches::pass);
        passWithoutReachesIsDenied();
        hoursOutOfRangeComeBeforeTheReaches();
        passAnswersWhatFlowsOutOfTheLastReach();
        hoursPassOneAfterTheOther();
        passOfNoWater();
    }

    private static void passWithoutReachesIsDenied() {
        RiverReaches river = new RiverReaches();
        river.addPulse(0, 1, 200);
        CHECK.denied(river, "pass(1) without reaches", 3, 0, () -> river.pass(1));
        CHECK.denied(river, "pass(48) without reaches", 3, 0, () -> river.pass(48));
        CHECK.due("hour() after it", river.hour(), 0);
        CHECK.due("pulseCount() after it", river.pulseCount(), 1);
        CHECK.due("totalIn() after it", river.totalIn(), 0);
        river.addReach(10, 20, 30);
        river.pass(48);
        river.pass(2);
        river.removeLastReach();
        CHECK.denied(river, "pass(1) without reaches any more", 3, 50, () -> river.pass(1));
    }

    private static void hoursOutOfRangeComeBeforeTheReaches() {
        RiverReaches river = new RiverReaches();
        CHECK.illegal("pass(0) without reaches", () -> river.pass(0));
        CHECK.illegal("pass(49) without reaches", () -> river.pass(49));
        CHECK.noSuchElement("denial() after them", river::denial);
    }

    private static void passAnswersWhatFlowsOutOfTheLastReach() {
        RiverReaches river = Check.row(2);
        river.fill(0, 100);
        river.fill(1, 10);
        CHECK.due("pass(1) out of reach 1", river.pass(1), 2);
        CHECK.due("pass(2) out of reach 1", river.pass(2), 5 + 7);
        RiverReaches one = Check.row(1);
        one.fill(0, 100);
        CHECK.due("pass(2) out of the only reach", one.pass(2), 20 + 16);
    }

    private static RiverReaches busy() {
        RiverReaches river = Check.row(8);
        for (int index = 0; index < 8; index++) {
            river.setLateral(index, 5 * index + 3);
            river.fill(index, 350);
        }
        river.setRule(3, 'h');
        river.setRule(7, 'r');
        river.addPulse(1, 24, 150);
        river.addPulse(30, 10, 200);
        return river;
    }

    private static void hoursPassOneAfterTheOther() {
        RiverReaches atOnce = busy();
        RiverReaches oneByOne = busy();
        int sum = 0;
        for (int hour = 0; hour < 48; hour++) {
            sum += oneByOne.pass(1);
        }
        CHECK.due("pass(48)", atOnce.pass(48), sum);
        CHECK.due("totalOut() of 48 hours", atOnce.totalOut(), sum);
        CHECK.due("alarms() of 48 hours", atOnce.alarms(), oneByOne.alarms());
        for (int index = 0; index < 8; index++) {
            CHECK.due("volume(" + index + ") after 48 hours", atOnce.volume(index), oneByOne.volume(index));
        }
    }

    private static void passOfNoWater() {
        RiverReaches river = Check.row(8);
        CHECK.due("pass(48) of no water", river.pass(48), 0);
        CHECK.due("totalVolume() of no water", river.totalVolume(), 0);
        CHECK.due("hour()", river.hour(), 48);
    }

    // ---- 'One hour'

    private static void oneHour() {
        waterFlowsThroughOneReachAnHour();
        flowsAreOfTheStateAtTheBeginning();
        volumeRisesByInflowAndFallsByOutflow();
        hourThatPassesHasTheNumberBefore();
    }

    private static void waterFlowsThroughOneReachAnHour() {
        RiverReaches river = Check.row(8);
        river.fill(0, 100);
        river.pass(1);
        CHECK.due("volume(0) after an hour", river.volume(0), 80);
        CHECK.due("volume(1) after an hour", river.volume(1), 20);
        CHECK.due("volume(2) after an hour", river.volume(2), 0);
        river.pass(1);
        CHECK.due("volume(2) after two hours", river.volume(2), 4);
        CHECK.due("volume(3) after two hours", river.volume(3), 0);
    }

    private static void flowsAreOfTheStateAtTheBeginning() {
        RiverReaches river = Check.row(2);
        river.setRule(0, 'r');
        river.setGate(0, 0);
        river.setLateral(0, 1);
        river.fill(0, 399);
        river.pass(1);
        CHECK.due("volume(0) of the hour that brings the flood", river.volume(0), 400);
        CHECK.due("volume(1) of the hour that brings the flood", river.volume(1), 0);
        river.pass(1);
        CHECK.due("volume(0) of the hour that begins in flood", river.volume(0), 371);
        CHECK.due("volume(1) of the hour that begins in flood", river.volume(1), 30);
        river.pass(1);
        CHECK.due("volume(0) of the hour after it", river.volume(0), 372);
    }

    private static void volumeRisesByInflowAndFallsByOutflow() {
        RiverReaches river = busy();
        int[] due = new int[8];
        for (int index = 0; index < 8; index++) {
            due[index] = river.volume(index) + river.inflow(index) - river.outflow(index);
        }
        int leaving = river.outflow(7);
        CHECK.due("pass(1)", river.pass(1), leaving);
        for (int index = 0; index < 8; index++) {
            CHECK.due("volume(" + index + ") after an hour", river.volume(index), due[index]);
        }
    }

    private static void hourThatPassesHasTheNumberBefore() {
        RiverReaches river = Check.row(1);
        river.addPulse(0, 1, 100);
        river.addPulse(2, 1, 50);
        river.setGate(0, 0);
        int[] due = {100, 100, 150, 150};
        for (int hour = 0; hour < due.length; hour++) {
            river.pass(1);
            CHECK.due("volume(0) when hour " + hour + " has passed", river.volume(0), due[hour]);
        }
    }

    private static void alarms() {
        CHECK.due("alarms() of a new river", new RiverReaches().alarms(), 0);
        alarmWhenTheStatusIsGreater();
        oneAlarmFromStatus0To2();
        noAlarmWithoutAGreaterStatus();
        eachReachRaisesItsOwn();
    }

    /** A closed reach of the surface 1 that rises by this volume each hour. */
    private static RiverReaches rising(int volume, int lateral) {
        RiverReaches river = Check.filled(1, volume);
        river.setGate(0, 0);
        river.setLateral(0, lateral);
        return river;
    }

    private static void alarmWhenTheStatusIsGreater() {
        int[] volumes = {18, 19, 38, 39};
        int[] due = {0, 1, 0, 1};
        for (int i = 0; i < volumes.length; i++) {
            RiverReaches river = rising(volumes[i], 1);
            river.pass(1);
            CHECK.due("alarms() from " + volumes[i], river.alarms(), due[i]);
        }
    }

    private static void oneAlarmFromStatus0To2() {
        RiverReaches river = rising(0, 40);
        river.pass(1);
        CHECK.due("status(0)", river.status(0), 2);
        CHECK.due("alarms() from 0 to 2", river.alarms(), 1);
    }

    private static void noAlarmWithoutAGreaterStatus() {
        RiverReaches flooded = rising(40, 50);
        flooded.pass(48);
        CHECK.due("alarms() from 2 to 2", flooded.alarms(), 0);
        RiverReaches warned = rising(20, 1);
        warned.pass(19);
        CHECK.due("alarms() from 1 to 1", warned.alarms(), 0);
        RiverReaches falling = Check.filled(1, 40);
        falling.pass(48);
        CHECK.due("status(0) when it has fallen", falling.status(0), 0);
        CHECK.due("alarms() from 2 down to 0", falling.alarms(), 0);
    }

    private static void eachReachRaisesItsOwn() {
        RiverReaches river = new RiverReaches();
        for (int index = 0; index < 8; index++) {
            river.addReach(1, 5, 1);
            river.setLateral(index, 20);
        }
        river.pass(1);
        CHECK.due("alarms() of eight reaches in an hour", river.alarms(), 8);
        river.pass(1);
        CHECK.due("alarms() of seven more", river.alarms(), 15);
        CHECK.due("status(0), which lacks the inflow", river.status(0), 1);
    }

    // ---- promises 23 and 24

    private static void hourCounter() {
        RiverReaches river = Check.row(1);
        CHECK.due("hour() at first", river.hour(), 0);
        river.pass(1);
        CHECK.due("hour() after pass(1)", river.hour(), 1);
        river.pass(48);
        CHECK.due("hour() after pass(48)", river.hour(), 49);
        river.removeLastReach();
        CHECK.due("hour() without reaches", river.hour(), 49);
    }

    private static void pulseCount() {
        CHECK.due("pulseCount() of none", new RiverReaches().pulseCount(), 0);
        RiverReaches river = Check.row(1);
        river.addPulse(0, 1, 1);
        river.addPulse(0, 2, 1);
        river.addPulse(2, 1, 1);
        river.addPulse(3, 24, 1);
        int[] due = {4, 3, 2, 1};
        for (int hour = 0; hour < due.length; hour++) {
            CHECK.due("pulseCount() at hour " + hour, river.pulseCount(), due[hour]);
            river.pass(1);
        }
        river.pass(22);
        CHECK.due("pulseCount() in the last hour of 24", river.pulseCount(), 1);
        river.pass(1);
        CHECK.due("pulseCount() after the last hour of 24", river.pulseCount(), 0);
    }

    // ---- promise 25

    private static void headInflow() {
        headInflowFromTheHourCounterOn();
        headInflowOfNoPulse();
        headInflowOfSeveralPulses();
        headInflowWithoutReaches();
    }

    private static void headInflowFromTheHourCounterOn() {
        RiverReaches river = Check.row(1);
        river.addPulse(0, 24, 7);
        CHECK.illegal("headInflow(-1) at hour 0", () -> river.headInflow(-1));
        CHECK.due("headInflow(0) at hour 0", river.headInflow(0), 7);
        river.pass(3);
        CHECK.illegal("headInflow(2) at hour 3", () -> river.headInflow(2));
        CHECK.illegal("headInflow(0) at hour 3", () -> river.headInflow(0));
        CHECK.illegal("headInflow(least int)", () -> river.headInflow(Integer.MIN_VALUE));
        CHECK.due("headInflow(3) at hour 3", river.headInflow(3), 7);
        CHECK.due("headInflow(23) at hour 3", river.headInflow(23), 7);
        CHECK.due("headInflow(24) at hour 3", river.headInflow(24), 0);
        CHECK.due("headInflow(greatest int)", river.headInflow(Integer.MAX_VALUE), 0);
    }

    private static void headInflowOfNoPulse() {
        RiverReaches river = new RiverReaches();
        CHECK.due("headInflow(0) of no pulse", river.headInflow(0), 0);
        CHECK.due("headInflow(greatest int) of no pulse", river.headInflow(Integer.MAX_VALUE), 0);
    }

    private static void headInflowOfSeveralPulses() {
        RiverReaches river = new RiverReaches();
        for (int i = 0; i < 8; i++) {
            river.addPulse(i, 8 - i, 200);
        }
        for (int hour = 0; hour < 8; hour++) {
            CHECK.due("headInflow(" + hour + ")", river.headInflow(hour), 200 * (hour + 1));
        }
        CHECK.due("headInflow(8)", river.headInflow(8), 0);
    }

    private static void headInflowWithoutReaches() {
        RiverReaches river = Check.row(1);
        river.addPulse(4, 2, 30);
        river.pass(3);
        river.removeLastReach();
        CHECK.due("headInflow(5) without reaches", river.headInflow(5), 30);
        CHECK.illegal("headInflow(2) without reaches", () -> river.headInflow(2));
    }

    // ---- promises 26 and 27

    private static void pendingInflow() {
        pending("of no pulse", new RiverReaches(), 0);
        pendingOfEightGreatest();
        pendingOfTheHoursLeft();
        pendingOfAPulseToCome();
        pendingOfOverlappingPulses();
    }

    private static void pending(String when, RiverReaches river, int due) {
        CHECK.due("pendingInflow() " + when, river.pendingInflow(), due);
        CHECK.due("pendingInflowByPulses() " + when, river.pendingInflowByPulses(), due);
    }

    private static void pendingOfEightGreatest() {
        RiverReaches river = new RiverReaches();
        for (int i = 0; i < 8; i++) {
            river.addPulse(999, 24, 200);
        }
        pending("of eight greatest pulses", river, 8 * 24 * 200);
    }

    private static void pendingOfTheHoursLeft() {
        RiverReaches river = Check.row(1);
        river.addPulse(0, 3, 10);
        int[] due = {30, 20, 10, 0, 0};
        for (int hour = 0; hour < due.length; hour++) {
            pending("at hour " + hour, river, due[hour]);
            river.pass(1);
        }
    }

    private static void pendingOfAPulseToCome() {
        RiverReaches river = Check.row(1);
        river.addPulse(999, 1, 1);
        river.pass(48);
        pending("of the last first hour", river, 1);
        Check.passAll(river, 951);
        pending("in its hour", river, 1);
        river.pass(1);
        pending("after its hour", river, 0);
    }

    private static void pendingOfOverlappingPulses() {
        RiverReaches river = Check.row(1);
        river.addPulse(0, 4, 10);
        river.addPulse(2, 4, 100);
        river.addPulse(9, 1, 7);
        pending("before any", river, 447);
        river.pass(3);
        pending("within two", river, 10 + 300 + 7);
        river.pass(3);
        pending("between", river, 7);
        river.removeLastReach();
        pending("without reaches", river, 7);
    }
}
