import java.util.function.Supplier;

/**
 * Each refused call leaves everything as it was: a river that refuses a call is compared with a twin that was not
 * asked, in every answer that can be had of both, down to what each undo and the snapshot bring back.
 */
public final class RefusalsTest {
    private static final Check CHECK = new Check("RefusalsTest");

    private interface Refused {
        void make(RiverReaches river);
    }

    public static void main(String[] args) {
        refusalsOfANewRiver();
        numbersOutOfRange();
        missingReaches();
        queriesOutOfRange();
        denials();
        missingReachesComeFirst();
        fullBuffer();
        texts();
        answersChangeNothing();
        CHECK.finish();
    }

    /** As much as there may be of everything, and something to lose of everything else. */
    private static RiverReaches full() {
        RiverReaches river = new RiverReaches();
        for (int index = 0; index < 8; index++) {
            river.addReach(5 + index, 20 + index, 60 + index);
            river.addPulse(4 + index, 3, 20 + index);
        }
        river.saveSnapshot();
        CHECK.fault(river, "pass 1;x", 7);
        CHECK.failedCommand(river, "fill 0 1;gate 1 100", 1, 4, 100);
        river.fill(1, 150);
        river.setLateral(2, 9);
        river.setStages(2, 7, 8);
        river.setGate(4, 45);
        river.setRule(4, 'h');
        river.fill(5, 999);
        river.pass(3);
        river.setRule(6, 'r');
        river.fill(0, 70);
        river.writeReach(5);
        Check.feed(river, "cut;pas");
        return river;
    }

    private static String of(Supplier<Object> query) {
        try {
            return query.get() + " ";
        } catch (RuntimeException e) {
            return e.getClass().getSimpleName() + " ";
        }
    }

    /** What refusals may replace: the latest denial and the fault position. */
    private static String latest(RiverReaches river) {
        return of(river::denial) + of(river::denialDetail) + of(river::denialCause) + of(river::denialCauseDetail)
                + "fault " + of(river::faultPosition);
    }

    /** Every other answer; the undos, the snapshot and the buffer are used up by it. */
    private static String everything(RiverReaches river) {
        StringBuilder all = new StringBuilder();
        all.append(answers(river)).append(line(river));
        while (river.undoCount() > 0) {
            all.append("\nundo ").append(river.undo()).append(": ").append(brief(river));
        }
        all.append("\nsnapshot ").append(of(river::restoreSnapshot)).append(brief(river));
        all.append("\nbuffer ").append(of(() -> river.feed('~'))).append(of(river::execute));
        all.append(of(river::faultPosition));
        return all.toString();
    }

    private static String answers(RiverReaches river) {
        StringBuilder all = new StringBuilder();
        int hour = river.hour();
        all.append(hour).append(' ').append(river.pulseCount()).append(' ').append(river.alarms()).append(" head ");
        for (int ahead = 0; ahead < 12; ahead++) {
            all.append(river.headInflow(hour + ahead)).append(' ');
        }
        all.append("totals ").append(river.totalIn()).append(' ').append(river.totalOut()).append(' ');
        all.append(river.volumeAfter(48)).append(' ').append(of(river::meanLevel)).append(of(river::floodedShare));
        for (int index = 0; index < river.reachCount(); index++) {
            int reach = index;
            all.append("\n").append(river.volume(reach)).append(' ').append(river.level(reach)).append(' ');
            all.append(river.lateral(reach)).append(' ').append(river.inflow(reach)).append(' ');
            all.append(river.outflow(reach)).append(' ').append(river.status(reach)).append(' ');
            all.append(river.opening(reach)).append(' ').append(river.rule(reach)).append(' ');
            all.append(of(() -> river.roomBelowFlood(reach))).append(of(() -> river.hoursUntilFlood(reach)));
            all.append(river.levelAfter(reach, 9)).append(' ').append(river.reachByLevel(reach));
        }
        return all.toString();
    }

    /** Few calls, as they are made after each undo: what the changes of the full river touch. */
    private static String brief(RiverReaches river) {
        StringBuilder all = new StringBuilder();
        all.append(river.reachCount()).append(' ').append(river.pulseCount()).append(' ').append(river.hour());
        all.append(' ').append(river.pendingInflow()).append(' ').append(river.totalIn()).append(' ');
        all.append(river.totalOut()).append(' ').append(river.alarms()).append(' ');
        all.append(river.volumeAfter(3)).append(' ').append(of(() -> river.volume(0))).append(of(() -> river.volume(5)));
        all.append(of(() -> river.lateral(2))).append(of(() -> river.roomBelowFlood(2)));
        all.append(of(() -> river.opening(4))).append(of(() -> river.rule(4))).append(of(() -> river.rule(6)));
        return all.toString();
    }

    private static String line(RiverReaches river) {
        StringBuilder all = new StringBuilder("\nline ");
        for (int index = 0; index < 60; index++) {
            try {
                all.append(river.lineCharacter(index));
            } catch (IndexOutOfBoundsException e) {
                return all.toString();
            }
        }
        return all.toString();
    }

    /** The call throws this exception, and neither the latest denial nor anything else is another than before. */
    private static void refused(String call, Supplier<RiverReaches> made, Class<? extends RuntimeException> exception,
            Refused refusal) {
        RiverReaches river = made.get();
        RiverReaches twin = made.get();
        refuse(call, river, exception, refusal);
        CHECK.due(call + ": the latest denial", latest(river), latest(twin));
        CHECK.due(call + ": everything", everything(river), everything(twin));
    }

    /** The call is denied with this number and detail, and nothing but the latest denial is another than before. */
    private static void denied(String call, Supplier<RiverReaches> made, int number, int detail, Refused refusal) {
        RiverReaches river = made.get();
        RiverReaches twin = made.get();
        refuse(call, river, UnsupportedOperationException.class, refusal);
        String none = "NoSuchElementException NoSuchElementException ";
        CHECK.due(call + ": the latest denial", latest(river),
                number + " " + detail + " " + none + "fault " + of(twin::faultPosition));
        CHECK.due(call + ": everything", everything(river), everything(twin));
    }

    private static void refuse(String call, RiverReaches river, Class<? extends RuntimeException> exception,
            Refused refusal) {
        CHECK.throwsDue(call, exception, () -> {
            refusal.make(river);
            return 0;
        });
    }

    private static void illegal(String call, Refused refusal) {
        refused(call, RefusalsTest::full, IllegalArgumentException.class, refusal);
    }

    private static void outOfBounds(String call, Refused refusal) {
        refused(call, RefusalsTest::full, IndexOutOfBoundsException.class, refusal);
    }

    private static void refusalsOfANewRiver() {
        ofANewRiver("reachByLevel(0)", java.util.NoSuchElementException.class, r -> r.reachByLevel(0));
        ofANewRiver("meanLevel()", ArithmeticException.class, RiverReaches::meanLevel);
        ofANewRiver("floodedShare()", ArithmeticException.class, RiverReaches::floodedShare);
        ofANewRiver("faultPosition()", java.util.NoSuchElementException.class, RiverReaches::faultPosition);
        ofANewRiver("denial()", java.util.NoSuchElementException.class, RiverReaches::denial);
        ofANewRiver("denialDetail()", java.util.NoSuchElementException.class, RiverReaches::denialDetail);
        ofANewRiver("denialCause()", java.util.NoSuchElementException.class, RiverReaches::denialCause);
        ofANewRiver("denialCauseDetail()", java.util.NoSuchElementException.class, RiverReaches::denialCauseDetail);
        ofANewRiver("undo()", IllegalStateException.class, RiverReaches::undo);
        ofANewRiver("restoreSnapshot()", IllegalStateException.class, RiverReaches::restoreSnapshot);
        ofANewRiver("lineCharacter(0)", IndexOutOfBoundsException.class, r -> r.lineCharacter(0));
        ofANewRiver("setLateral(0, 0)", IndexOutOfBoundsException.class, r -> r.setLateral(0, 0));
        ofANewRiver("fill(0, 1)", IndexOutOfBoundsException.class, r -> r.fill(0, 1));
        ofANewRiver("setStages(0, 1, 2)", IndexOutOfBoundsException.class, r -> r.setStages(0, 1, 2));
        ofANewRiver("setGate(0, 100)", IndexOutOfBoundsException.class, r -> r.setGate(0, 100));
        ofANewRiver("setRule(0, 'f')", IndexOutOfBoundsException.class, r -> r.setRule(0, 'f'));
        ofANewRiver("writeReach(0)", IndexOutOfBoundsException.class, r -> r.writeReach(0));
        denied("removeLastReach()", RiverReaches::new, 3, 0, RiverReaches::removeLastReach);
        denied("pass(1)", RiverReaches::new, 3, 0, r -> r.pass(1));
    }

    private static void ofANewRiver(String call, Class<? extends RuntimeException> exception, Refused refusal) {
        refused(call + " of a new river", RiverReaches::new, exception, refusal);
    }

    private static void numbersOutOfRange() {
        illegal("addReach(0, 5, 1)", r -> r.addReach(0, 5, 1));
        illegal("addReach(51, 5, 1)", r -> r.addReach(51, 5, 1));
        illegal("addReach(1, 4, 1)", r -> r.addReach(1, 4, 1));
        illegal("addReach(1, 61, 1)", r -> r.addReach(1, 61, 1));
        illegal("addReach(1, 5, 0)", r -> r.addReach(1, 5, 0));
        illegal("addReach(1, 5, 501)", r -> r.addReach(1, 5, 501));
        illegal("setLateral(0, -1)", r -> r.setLateral(0, -1));
        illegal("setLateral(0, 51)", r -> r.setLateral(0, 51));
        illegal("fill(0, 0)", r -> r.fill(0, 0));
        illegal("fill(0, 1000)", r -> r.fill(0, 1000));
        illegal("setStages(2, 0, 8)", r -> r.setStages(2, 0, 8));
        illegal("setStages(2, 998, 1000)", r -> r.setStages(2, 998, 1000));
        illegal("setStages(2, 30, 30)", r -> r.setStages(2, 30, 30));
        illegal("setGate(4, -1)", r -> r.setGate(4, -1));
        illegal("setGate(4, 101)", r -> r.setGate(4, 101));
        illegal("setRule(4, 'x')", r -> r.setRule(4, 'x'));
        illegal("addPulse(-1, 1, 1)", r -> r.addPulse(-1, 1, 1));
        illegal("addPulse(1000, 1, 1)", r -> r.addPulse(1000, 1, 1));
        illegal("addPulse(5, 0, 1)", r -> r.addPulse(5, 0, 1));
        illegal("addPulse(5, 25, 1)", r -> r.addPulse(5, 25, 1));
        illegal("addPulse(5, 1, 0)", r -> r.addPulse(5, 1, 0));
        illegal("addPulse(5, 1, 201)", r -> r.addPulse(5, 1, 201));
        illegal("pass(0)", r -> r.pass(0));
        illegal("pass(49)", r -> r.pass(49));
    }

    private static void missingReaches() {
        for (int index : new int[] {-1, 8}) {
            String reach = "(" + index + ")";
            outOfBounds("setLateral" + reach, r -> r.setLateral(index, 9));
            outOfBounds("fill" + reach, r -> r.fill(index, 9));
            outOfBounds("setStages" + reach, r -> r.setStages(index, 1, 2));
            outOfBounds("setGate" + reach, r -> r.setGate(index, 9));
            outOfBounds("setRule" + reach, r -> r.setRule(index, 'h'));
            outOfBounds("volume" + reach, r -> r.volume(index));
            outOfBounds("lateral" + reach, r -> r.lateral(index));
            outOfBounds("inflow" + reach, r -> r.inflow(index));
            outOfBounds("outflow" + reach, r -> r.outflow(index));
            outOfBounds("level" + reach, r -> r.level(index));
            outOfBounds("status" + reach, r -> r.status(index));
            outOfBounds("isFlooded" + reach, r -> r.isFlooded(index));
            outOfBounds("opening" + reach, r -> r.opening(index));
            outOfBounds("rule" + reach, r -> r.rule(index));
            outOfBounds("roomBelowFlood" + reach, r -> r.roomBelowFlood(index));
            outOfBounds("levelAfter" + reach, r -> r.levelAfter(index, 9));
            outOfBounds("peakLevel" + reach, r -> r.peakLevel(index, 9));
            outOfBounds("hoursUntilFlood" + reach, r -> r.hoursUntilFlood(index));
            outOfBounds("writeReach" + reach, r -> r.writeReach(index));
        }
    }

    private static void queriesOutOfRange() {
        illegal("headInflow(2) at hour 3", r -> r.headInflow(2));
        for (int hours : new int[] {-1, 49}) {
            illegal("levelAfter(0, " + hours + ")", r -> r.levelAfter(0, hours));
            illegal("peakLevel(0, " + hours + ")", r -> r.peakLevel(0, hours));
            illegal("volumeAfter(" + hours + ")", r -> r.volumeAfter(hours));
            illegal("volumeAfterByBalance(" + hours + ")", r -> r.volumeAfterByBalance(hours));
        }
        for (int rank : new int[] {-1, 8}) {
            refused("reachByLevel(" + rank + ")", RefusalsTest::full, java.util.NoSuchElementException.class,
                    r -> r.reachByLevel(rank));
        }
        refused("roomBelowFlood(5)", RefusalsTest::full, java.util.NoSuchElementException.class,
                r -> r.roomBelowFlood(5));
        refused("hoursUntilFlood(3)", RefusalsTest::full, java.util.NoSuchElementException.class,
                r -> r.hoursUntilFlood(3));
        for (int index : new int[] {-1, 18}) {
            outOfBounds("lineCharacter(" + index + ")", r -> r.lineCharacter(index));
        }
    }

    private static void denials() {
        denied("addReach()", RefusalsTest::full, 1, 8, r -> r.addReach(1, 5, 1));
        denied("setLateral(2, 9)", RefusalsTest::full, 4, 9, r -> r.setLateral(2, 9));
        denied("setLateral(0, 0)", RefusalsTest::full, 4, 0, r -> r.setLateral(0, 0));
        denied("setGate(4, 45)", RefusalsTest::full, 4, 45, r -> r.setGate(4, 45));
        denied("setRule(4, 'h')", RefusalsTest::full, 4, 104, r -> r.setRule(4, 'h'));
        denied("addPulse(3, 1, 1)", RefusalsTest::full, 1, 8, r -> r.addPulse(3, 1, 1));
        denied("addPulse(2, 1, 1)", RefusalsTest::full, 2, 3, r -> r.addPulse(2, 1, 1));
        denied("removeLastReach()", RefusalsTest::dry, 3, 3, RiverReaches::removeLastReach);
        denied("pass(48)", RefusalsTest::dry, 3, 3, r -> r.pass(48));
    }

    private static RiverReaches dry() {
        RiverReaches river = full();
        for (int left = 8; left > 0; left--) {
            river.removeLastReach();
        }
        return river;
    }

    private static void missingReachesComeFirst() {
        outOfBounds("setLateral(8, 51)", r -> r.setLateral(8, 51));
        outOfBounds("fill(8, 0)", r -> r.fill(8, 0));
        outOfBounds("setStages(8, 2, 1)", r -> r.setStages(8, 2, 1));
        outOfBounds("setGate(8, 101)", r -> r.setGate(8, 101));
        outOfBounds("setRule(8, 'x')", r -> r.setRule(8, 'x'));
        outOfBounds("levelAfter(8, 49)", r -> r.levelAfter(8, 49));
        outOfBounds("peakLevel(8, 49)", r -> r.peakLevel(8, 49));
    }

    private static RiverReaches fullToTheBrim() {
        RiverReaches river = full();
        Check.feed(river, "s 1;pass 1;pass 1;pass 1;pass 1;pass 1;pass 1;pass 01");
        return river;
    }

    private static void fullBuffer() {
        CHECK.accepted("feed() of the 60th character", () -> fullToTheBrim().hour());
        refused("feed(';')", RefusalsTest::fullToTheBrim, IllegalStateException.class, r -> r.feed(';'));
        RiverReaches river = fullToTheBrim();
        CHECK.illegalState("feed(';')", () -> river.feed(';'));
        CHECK.due("execute() of what was there before", river.execute(), 9);
        CHECK.due("hour() after it", river.hour(), 11);
    }

    private static RiverReaches emptyBuffer() {
        RiverReaches river = full();
        CHECK.illegal("execute() of the rest", river::execute);
        return river;
    }

    /** A refused text leaves an empty buffer, as its twin has one that was not fed. */
    private static void refusedText(String text, Class<? extends RuntimeException> exception, String due) {
        RiverReaches river = emptyBuffer();
        RiverReaches twin = emptyBuffer();
        refuse(text, river, exception, r -> Check.run(r, text));
        CHECK.due(text + ": the latest", latest(river), due);
        CHECK.due(text + ": everything", everything(river), everything(twin));
    }

    private static void texts() {
        String denialBefore = "5 1 4 100 fault ";
        refusedText("", IllegalArgumentException.class, denialBefore + "0 ");
        refusedText("cut;", IllegalArgumentException.class, denialBefore + "4 ");
        refusedText("cut;pass 9;fill 0 9;fill 0  9", IllegalArgumentException.class, denialBefore + "27 ");
        refusedText("cut;fill 0 9;pass 9;fill 7 9", UnsupportedOperationException.class, "5 3 6 0 fault 7 ");
        refusedText("cut;cut;cut;cut;cut;cut;cut;cut;cut", UnsupportedOperationException.class, "5 8 3 3 fault 7 ");
        refusedText("lateral 0 9;stages 0 1 2;gate 0 9;rule 0 h;reach 1 5 1", UnsupportedOperationException.class,
                "5 4 1 8 fault 7 ");
        refusedText("pass 48;pulse 51 24 200;pulse 50 1 1", UnsupportedOperationException.class, "5 2 2 51 fault 7 ");
        refusedText("gate 0 101", UnsupportedOperationException.class, "5 0 6 0 fault 7 ");
    }

    private static void answersChangeNothing() {
        RiverReaches river = full();
        RiverReaches twin = full();
        answers(river);
        river.peakLevel(0, 48);
        river.volumeAfterByBalance(48);
        river.pendingInflowByPulses();
        latest(river);
        CHECK.due("everything after answers", everything(river), everything(twin));
    }
}
