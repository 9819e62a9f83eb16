import java.util.NoSuchElementException;

/** A flood model of a river with reaches in a row; ../shared/DOC.md says what each call must do. */
public final class RiverReaches {
    private static final int MOST_REACHES = 8;
    private static final int MOST_PULSES = 8;
    private static final int MOST_UNDOS = 8;
    private static final int MOST_SIGNS = 60;
    private static final int MOST_HOURS = 48;
    // Fifteen commands of three characters fill a text; a last ";" begins a sixteenth that has no room.
    private static final int MOST_COMMANDS = 16;

    private static final int NONE = -1;
    private static final int FLOODED = 2;
    private static final char FIXED = 'f';
    private static final char HOLD = 'h';
    private static final char RELEASE = 'r';

    private static final int LIMIT_REACHED = 1;
    private static final int HOUR_PASSED = 2;
    private static final int NO_REACHES = 3;
    private static final int SAME_VALUE = 4;
    private static final int COMMAND_FAILED = 5;
    private static final int OTHER_FAILURE = 6;

    // No change answers a negative number, so these stand for its refusals; a denial is its number negated.
    private static final int NO_SUCH_REACH = -11;
    private static final int OUT_OF_RANGE = -12;

    private static final Kind[] KINDS = Kind.values();

    private final River river = new River();
    private final River forecast = new River();
    private final River snapshot = new River();
    private final History history = new History();
    private final Text text = new Text();
    private final Denial latest = new Denial();
    private final StringBuilder line = new StringBuilder();
    private boolean hasSnapshot = false;
    private int keptFault = NONE;

    public RiverReaches() {
    }

    // ---- reaches

    public int addReach(int surface, int percentage, int capacity)
            throws IllegalArgumentException, UnsupportedOperationException {
        history.note(river);
        return conclude(river.appendReach(surface, percentage, capacity), 0);
    }

    public int removeLastReach() throws UnsupportedOperationException {
        history.note(river);
        return conclude(river.cutReach(), 0);
    }

    public int setLateral(int reach, int inflow)
            throws IndexOutOfBoundsException, IllegalArgumentException, UnsupportedOperationException {
        history.note(river);
        return conclude(river.changeLateral(reach, inflow), inflow);
    }

    public int fill(int reach, int volume) throws IndexOutOfBoundsException, IllegalArgumentException {
        history.note(river);
        return conclude(river.pourInto(reach, volume), 0);
    }

    public int reachCount() {
        return river.reachCount;
    }

    public int volume(int reach) throws IndexOutOfBoundsException {
        return river.row(reach).volume;
    }

    public int lateral(int reach) throws IndexOutOfBoundsException {
        return river.row(reach).lateral;
    }

    public int inflow(int reach) throws IndexOutOfBoundsException {
        return river.inflowOf(reach);
    }

    public int outflow(int reach) throws IndexOutOfBoundsException {
        return river.outflowOf(reach);
    }

    // ---- levels, gates

    public int setStages(int reach, int warning, int flood)
            throws IndexOutOfBoundsException, IllegalArgumentException {
        history.note(river);
        return conclude(river.changeStages(reach, warning, flood), 0);
    }

    public int setGate(int reach, int setting)
            throws IndexOutOfBoundsException, IllegalArgumentException, UnsupportedOperationException {
        history.note(river);
        return conclude(river.changeSetting(reach, setting), setting);
    }

    public int setRule(int reach, char rule)
            throws IndexOutOfBoundsException, IllegalArgumentException, UnsupportedOperationException {
        history.note(river);
        return conclude(river.changeRule(reach, rule), rule);
    }

    public int level(int reach) throws IndexOutOfBoundsException {
        return river.row(reach).levelNow();
    }

    public int status(int reach) throws IndexOutOfBoundsException {
        return river.row(reach).statusNow();
    }

    public boolean isFlooded(int reach) throws IndexOutOfBoundsException {
        return river.row(reach).statusNow() == FLOODED;
    }

    public int opening(int reach) throws IndexOutOfBoundsException {
        return river.openingOf(reach);
    }

    public char rule(int reach) throws IndexOutOfBoundsException {
        return river.row(reach).rule;
    }

    public int roomBelowFlood(int reach) throws IndexOutOfBoundsException, NoSuchElementException {
        Reach row = river.row(reach);
        if (row.statusNow() == FLOODED) {
            throw new NoSuchElementException();
        }
        return row.flood * row.surface - 1 - row.volume;
    }

    public int reachByLevel(int rank) throws NoSuchElementException {
        for (int index = 0; index < river.reachCount; index++) {
            if (river.countAhead(index) == rank) {
                return index;
            }
        }
        throw new NoSuchElementException();
    }

    // ---- pulses, hours

    public int addPulse(int hour, int hours, int rate)
            throws IllegalArgumentException, UnsupportedOperationException {
        history.note(river);
        return conclude(river.appendPulse(hour, hours, rate), 0);
    }

    public int pass(int hours) throws IllegalArgumentException, UnsupportedOperationException {
        history.note(river);
        return conclude(river.letPass(hours), 0);
    }

    public int hour() {
        return river.hour;
    }

    public int pulseCount() {
        return river.pulseCount;
    }

    public int headInflow(int hour) throws IllegalArgumentException {
        if (hour < river.hour) {
            throw new IllegalArgumentException();
        }
        return river.headInflowIn(hour);
    }

    public int pendingInflow() {
        return river.comingByHours();
    }

    public int pendingInflowByPulses() {
        return river.comingByPulses();
    }

    // ---- forecasts

    public int levelAfter(int reach, int hours) throws IndexOutOfBoundsException, IllegalArgumentException {
        requireReach(reach);
        requireForecastHours(hours);
        return ahead(hours).row(reach).levelNow();
    }

    public int peakLevel(int reach, int hours) throws IndexOutOfBoundsException, IllegalArgumentException {
        requireReach(reach);
        requireForecastHours(hours);
        Reach row = ahead(0).row(reach);
        int peak = row.levelNow();
        for (int passed = 0; passed < hours; passed++) {
            forecast.passHour();
            peak = Math.max(peak, row.levelNow());
        }
        return peak;
    }

    public int hoursUntilFlood(int reach) throws IndexOutOfBoundsException, NoSuchElementException {
        requireReach(reach);
        Reach row = ahead(0).row(reach);
        for (int passed = 0; passed <= MOST_HOURS; passed++) {
            if (row.statusNow() == FLOODED) {
                return passed;
            }
            forecast.passHour();
        }
        throw new NoSuchElementException();
    }

    public int volumeAfter(int hours) throws IllegalArgumentException {
        requireForecastHours(hours);
        return ahead(hours).volumeOfAll();
    }

    public int volumeAfterByBalance(int hours) throws IllegalArgumentException {
        requireForecastHours(hours);
        River later = ahead(hours);
        int comesIn = later.totalIn - river.totalIn;
        int goesOut = later.totalOut - river.totalOut;
        return river.volumeOfAll() + comesIn - goesOut;
    }

    // ---- totals, statistics

    public int totalVolume() {
        return river.volumeOfAll();
    }

    public int totalIn() {
        return river.totalIn;
    }

    public int totalOut() {
        return river.totalOut;
    }

    public int alarms() {
        return river.alarms;
    }

    public double meanLevel() throws ArithmeticException {
        if (river.reachCount == 0) {
            throw new ArithmeticException();
        }
        return (double) river.sumOfLevels() / (double) river.reachCount;
    }

    public float floodedShare() throws ArithmeticException {
        if (river.reachCount == 0) {
            throw new ArithmeticException();
        }
        return (float) river.countFlooded() / (float) river.reachCount;
    }

    // ---- texts and output lines

    public int feed(char character) throws IllegalStateException {
        if (text.isFull()) {
            throw new IllegalStateException();
        }
        return text.append(character);
    }

    public int execute() throws IllegalArgumentException, UnsupportedOperationException {
        int fault = text.parse();
        text.empty();
        if (fault != NONE) {
            keptFault = fault;
            throw new IllegalArgumentException();
        }
        history.note(river);
        for (int index = 0; index < text.commandCount; index++) {
            Command command = text.commandAt(index);
            int answer = river.perform(command);
            if (answer < 0) {
                failCommand(index, command, answer);
                throw new UnsupportedOperationException();
            }
        }
        history.confirm();
        return text.commandCount;
    }

    public int faultPosition() throws NoSuchElementException {
        if (keptFault == NONE) {
            throw new NoSuchElementException();
        }
        return keptFault;
    }

    public int writeReach(int reach) throws IndexOutOfBoundsException {
        Reach row = river.row(reach);
        line.setLength(0);
        line.append(reach);
        line.append('=');
        line.append(row.volume);
        line.append('/');
        line.append(row.surface);
        line.append('@');
        line.append(row.levelNow());
        for (int marks = row.statusNow(); marks > 0; marks--) {
            line.append('!');
        }
        line.append(' ');
        line.append(row.rule);
        line.append(river.openingOf(reach));
        return line.length();
    }

    public int writeRiver() {
        line.setLength(0);
        for (int index = 0; index < river.reachCount; index++) {
            Reach row = river.row(index);
            if (index > 0) {
                line.append('>');
            }
            line.append(row.levelNow());
            if (row.statusNow() == FLOODED) {
                line.append('!');
            }
        }
        return line.length();
    }

    public char lineCharacter(int index) throws IndexOutOfBoundsException {
        if (index < 0 || index >= line.length()) {
            throw new IndexOutOfBoundsException();
        }
        return line.charAt(index);
    }

    // ---- the latest denial

    public int denial() throws NoSuchElementException {
        requireDenial(latest.number);
        return latest.number;
    }

    public int denialDetail() throws NoSuchElementException {
        requireDenial(latest.number);
        return latest.detail;
    }

    public int denialCause() throws NoSuchElementException {
        requireDenial(latest.cause);
        return latest.cause;
    }

    public int denialCauseDetail() throws NoSuchElementException {
        requireDenial(latest.cause);
        return latest.causeDetail;
    }

    // ---- undo and snapshots

    public int undo() throws IllegalStateException {
        if (history.count == 0) {
            throw new IllegalStateException();
        }
        history.takeBack(river);
        return history.count;
    }

    public int undoCount() {
        return history.count;
    }

    public int saveSnapshot() {
        snapshot.copyFrom(river);
        hasSnapshot = true;
        return river.reachCount;
    }

    public int restoreSnapshot() throws IllegalStateException {
        if (!hasSnapshot) {
            throw new IllegalStateException();
        }
        river.copyFrom(snapshot);
        history.forgetAll();
        return river.reachCount;
    }

    // ---- what several calls share

    /** Keeps an accepted change for undo and returns its answer; throws what a refused one asks for. */
    private int conclude(int answer, int value) {
        if (answer == NO_SUCH_REACH) {
            throw new IndexOutOfBoundsException();
        }
        if (answer == OUT_OF_RANGE) {
            throw new IllegalArgumentException();
        }
        if (answer < 0) {
            latest.keep(-answer, river.detailOf(-answer, value), 0, 0);
            throw new UnsupportedOperationException();
        }
        history.confirm();
        return answer;
    }

    private void failCommand(int index, Command command, int answer) {
        if (answer == NO_SUCH_REACH || answer == OUT_OF_RANGE) {
            latest.keep(COMMAND_FAILED, index, OTHER_FAILURE, 0);
        } else {
            // The detail is of the moment of the failure: it is read before the river is put back.
            int detail = river.detailOf(-answer, command.second);
            latest.keep(COMMAND_FAILED, index, -answer, detail);
        }
        history.putBack(river);
    }

    /** The forecast copy of the river, so many hours later. */
    private River ahead(int hours) {
        forecast.copyFrom(river);
        // The hours of a river without reaches cannot pass, so no water comes into it.
        int passing = river.reachCount == 0 ? 0 : hours;
        for (int passed = 0; passed < passing; passed++) {
            forecast.passHour();
        }
        return forecast;
    }

    private void requireReach(int index) {
        if (!river.hasReach(index)) {
            throw new IndexOutOfBoundsException();
        }
    }

    private static void requireForecastHours(int hours) {
        if (!within(hours, 0, MOST_HOURS)) {
            throw new IllegalArgumentException();
        }
    }

    private static void requireDenial(int number) {
        if (number == 0) {
            throw new NoSuchElementException();
        }
    }

    private static boolean within(int value, int least, int greatest) {
        return value >= least && value <= greatest;
    }

    private static boolean isRule(int sign) {
        return sign == FIXED || sign == HOLD || sign == RELEASE;
    }

    /** One reach; its numbers stay small enough in 512 calls that no product of two leaves the int range. */
    private static final class Reach {
        int surface = 1;
        int percentage;
        int capacity;
        int lateral;
        int volume;
        int warning;
        int flood;
        int setting;
        char rule = FIXED;
        // Only within an hour that passes, so they are no part of the state that is copied.
        int statusBefore;
        int leaving;

        void begin(int newSurface, int newPercentage, int newCapacity) {
            surface = newSurface;
            percentage = newPercentage;
            capacity = newCapacity;
            lateral = 0;
            volume = 0;
            warning = 20;
            flood = 40;
            setting = 100;
            rule = FIXED;
        }

        void copyFrom(Reach other) {
            surface = other.surface;
            percentage = other.percentage;
            capacity = other.capacity;
            lateral = other.lateral;
            volume = other.volume;
            warning = other.warning;
            flood = other.flood;
            setting = other.setting;
            rule = other.rule;
        }

        int levelNow() {
            return surface < 1 ? 0 : volume / surface;
        }

        /** The level is at least a stage exactly if the volume is at least the stage times the surface. */
        int statusNow() {
            if (volume >= flood * surface) {
                return FLOODED;
            }
            return volume >= warning * surface ? 1 : 0;
        }

        boolean comesBefore(Reach other) {
            int level = levelNow();
            int otherLevel = other.levelNow();
            return level > otherLevel || level == otherLevel && volume > other.volume;
        }
    }

    private static final class Pulse {
        int first;
        int hours;
        int rate;

        void begin(int newFirst, int newHours, int newRate) {
            first = newFirst;
            hours = newHours;
            rate = newRate;
        }

        int end() {
            return first + hours;
        }

        int rateIn(int hour) {
            return hour >= first && hour < end() ? rate : 0;
        }

        int leftFrom(int hour) {
            return rate * Math.max(0, end() - Math.max(first, hour));
        }
    }

    /** Everything that changes can change. */
    private static final class River {
        private final Reach[] reaches = new Reach[MOST_REACHES];
        private final Pulse[] pulses = new Pulse[MOST_PULSES];
        int reachCount;
        int pulseCount;
        int hour;
        int totalIn;
        int totalOut;
        int alarms;

        River() {
            for (int i = 0; i < MOST_REACHES; i++) {
                reaches[i] = new Reach();
            }
            for (int i = 0; i < MOST_PULSES; i++) {
                pulses[i] = new Pulse();
            }
        }

        void copyFrom(River other) {
            for (int i = 0; i < MOST_REACHES; i++) {
                reaches[i].copyFrom(other.reaches[i]);
            }
            for (int i = 0; i < MOST_PULSES; i++) {
                Pulse pulse = other.pulses[i];
                pulses[i].begin(pulse.first, pulse.hours, pulse.rate);
            }
            reachCount = other.reachCount;
            pulseCount = other.pulseCount;
            hour = other.hour;
            totalIn = other.totalIn;
            totalOut = other.totalOut;
            alarms = other.alarms;
        }

        boolean hasReach(int index) {
            return index >= 0 && index < reachCount && index < MOST_REACHES;
        }

        Reach row(int index) {
            if (index < 0 || index >= reachCount || index >= MOST_REACHES) {
                throw new IndexOutOfBoundsException();
            }
            return reaches[index];
        }

        int perform(Command command) {
            switch (command.kind) {
                case REACH:
                    return appendReach(command.first, command.second, command.third);
                case CUT:
                    return cutReach();
                case LATERAL:
                    return changeLateral(command.first, command.second);
                case FILL:
                    return pourInto(command.first, command.second);
                case STAGES:
                    return changeStages(command.first, command.second, command.third);
                case GATE:
                    return changeSetting(command.first, command.second);
                case RULE:
                    return changeRule(command.first, (char) command.second);
                case PULSE:
                    return appendPulse(command.first, command.second, command.third);
                default:
                    return letPass(command.first);
            }
        }

        /** The detail of a denial of a call on this river; the value is the one that the call would set. */
        int detailOf(int denial, int value) {
            if (denial == SAME_VALUE) {
                return value;
            }
            if (denial == LIMIT_REACHED) {
                // The limits of reaches and of pulses are the same number.
                return MOST_REACHES;
            }
            return hour;
        }

        int appendReach(int surface, int percentage, int capacity) {
            if (!within(surface, 1, 50) || !within(percentage, 5, 60) || !within(capacity, 1, 500)) {
                return OUT_OF_RANGE;
            }
            if (!within(reachCount, 0, MOST_REACHES - 1)) {
                return -LIMIT_REACHED;
            }
            reaches[reachCount].begin(surface, percentage, capacity);
            reachCount++;
            return reachCount - 1;
        }

        int cutReach() {
            if (!hasReach(reachCount - 1)) {
                return -NO_REACHES;
            }
            int volume = reaches[reachCount - 1].volume;
            reachCount--;
            totalOut += volume;
            return volume;
        }

        int changeLateral(int index, int inflow) {
            if (!hasReach(index)) {
                return NO_SUCH_REACH;
            }
            if (!within(inflow, 0, 50)) {
                return OUT_OF_RANGE;
            }
            Reach reach = reaches[index];
            int before = reach.lateral;
            if (before == inflow) {
                return -SAME_VALUE;
            }
            reach.lateral = inflow;
            return before;
        }

        int pourInto(int index, int volume) {
            if (!hasReach(index)) {
                return NO_SUCH_REACH;
            }
            if (!within(volume, 1, 999)) {
                return OUT_OF_RANGE;
            }
            Reach reach = reaches[index];
            reach.volume += volume;
            totalIn += volume;
            return reach.levelNow();
        }

        int changeStages(int index, int warning, int flood) {
            if (!hasReach(index)) {
                return NO_SUCH_REACH;
            }
            if (!within(warning, 1, 998) || !within(flood, 2, 999) || flood <= warning) {
                return OUT_OF_RANGE;
            }
            Reach reach = reaches[index];
            reach.warning = warning;
            reach.flood = flood;
            return reach.statusNow();
        }

        int changeSetting(int index, int setting) {
            if (!hasReach(index)) {
                return NO_SUCH_REACH;
            }
            if (!within(setting, 0, 100)) {
                return OUT_OF_RANGE;
            }
            Reach reach = reaches[index];
            int before = reach.setting;
            if (before == setting) {
                return -SAME_VALUE;
            }
            reach.setting = setting;
            return before;
        }

        int changeRule(int index, char rule) {
            if (!hasReach(index)) {
                return NO_SUCH_REACH;
            }
            if (!isRule(rule)) {
                return OUT_OF_RANGE;
            }
            Reach reach = reaches[index];
            if (reach.rule == rule) {
                return -SAME_VALUE;
            }
            reach.rule = rule;
            return openingOf(index);
        }

        int appendPulse(int first, int hours, int rate) {
            if (!within(first, 0, 999) || !within(hours, 1, 24) || !within(rate, 1, 200)) {
                return OUT_OF_RANGE;
            }
            if (first < hour) {
                return -HOUR_PASSED;
            }
            if (!within(pulseCount, 0, MOST_PULSES - 1)) {
                return -LIMIT_REACHED;
            }
            pulses[pulseCount].begin(first, hours, rate);
            pulseCount++;
            return pulseCount;
        }

        int letPass(int hours) {
            if (!within(hours, 1, MOST_HOURS)) {
                return OUT_OF_RANGE;
            }
            if (reachCount == 0) {
                return -NO_REACHES;
            }
            int leaving = 0;
            for (int passed = 0; passed < hours; passed++) {
                leaving += passHour();
            }
            return leaving;
        }

        /** Returns the volume that flows out of the last reach. */
        int passHour() {
            // All flows are of the state at the hour's beginning, so they are read before any volume changes.
            for (int i = 0; i < reachCount && i < MOST_REACHES; i++) {
                reaches[i].statusBefore = reaches[i].statusNow();
                reaches[i].leaving = outflowOf(i);
            }
            int arriving = headInflowIn(hour);
            totalIn += arriving;
            for (int i = 0; i < reachCount && i < MOST_REACHES; i++) {
                Reach reach = reaches[i];
                reach.volume += arriving + reach.lateral - reach.leaving;
                totalIn += reach.lateral;
                if (reach.statusNow() > reach.statusBefore) {
                    alarms++;
                }
                arriving = reach.leaving;
            }
            totalOut += arriving;
            hour++;
            dropPassedPulses();
            return arriving;
        }

        private void dropPassedPulses() {
            int kept = 0;
            for (int i = 0; i < pulseCount && i < MOST_PULSES; i++) {
                Pulse pulse = pulses[i];
                if (pulse.end() > hour) {
                    pulses[kept].begin(pulse.first, pulse.hours, pulse.rate);
                    kept++;
                }
            }
            pulseCount = kept;
        }

        int inflowOf(int index) {
            int lateral = row(index).lateral;
            return lateral + (index == 0 ? headInflowIn(hour) : outflowOf(index - 1));
        }

        int outflowOf(int index) {
            Reach reach = row(index);
            int driven = reach.volume * reach.percentage / 100;
            int allowed = reach.capacity * openingOf(index) / 100;
            return Math.min(driven, allowed);
        }

        int openingOf(int index) {
            Reach reach = row(index);
            if (reach.rule == RELEASE && reach.statusNow() == FLOODED) {
                return 100;
            }
            if (reach.rule == HOLD && hasReach(index + 1) && reaches[index + 1].statusNow() == FLOODED) {
                return reach.setting / 2;
            }
            return reach.setting;
        }

        int headInflowIn(int someHour) {
            int sum = 0;
            for (int i = 0; i < pulseCount && i < MOST_PULSES; i++) {
                sum += pulses[i].rateIn(someHour);
            }
            return sum;
        }

        int comingByHours() {
            int end = hour;
            for (int i = 0; i < pulseCount && i < MOST_PULSES; i++) {
                end = Math.max(end, pulses[i].end());
            }
            int sum = 0;
            for (int coming = hour; coming < end; coming++) {
                sum += headInflowIn(coming);
            }
            return sum;
        }

        int comingByPulses() {
            int sum = 0;
            for (int i = 0; i < pulseCount && i < MOST_PULSES; i++) {
                sum += pulses[i].leftFrom(hour);
            }
            return sum;
        }

        /** The number of reaches that come before this one by level. */
        int countAhead(int index) {
            Reach reach = row(index);
            int count = 0;
            for (int i = 0; i < reachCount && i < MOST_REACHES; i++) {
                boolean ties = !reach.comesBefore(reaches[i]);
                if (reaches[i].comesBefore(reach) || i < index && ties) {
                    count++;
                }
            }
            return count;
        }

        int volumeOfAll() {
            int sum = 0;
            for (int i = 0; i < reachCount && i < MOST_REACHES; i++) {
                sum += reaches[i].volume;
            }
            return sum;
        }

        int sumOfLevels() {
            int sum = 0;
            for (int i = 0; i < reachCount && i < MOST_REACHES; i++) {
                sum += reaches[i].levelNow();
            }
            return sum;
        }

        int countFlooded() {
            int count = 0;
            for (int i = 0; i < reachCount && i < MOST_REACHES; i++) {
                if (reaches[i].statusNow() == FLOODED) {
                    count++;
                }
            }
            return count;
        }
    }

    /** The states before the latest changes, in a ring with one row more for the state before the next one. */
    private static final class History {
        private static final int ROWS = MOST_UNDOS + 1;

        private final River[] rows = new River[ROWS];
        // The row of the next change; the count rows behind it can be taken back.
        private int next;
        int count;

        History() {
            for (int i = 0; i < ROWS; i++) {
                rows[i] = new River();
            }
        }

        private River nextRow() {
            return rows[within(next, 0, ROWS - 1) ? next : 0];
        }

        void note(River river) {
            nextRow().copyFrom(river);
        }

        void confirm() {
            next = (next + 1) % ROWS;
            count = Math.min(count + 1, MOST_UNDOS);
        }

        void putBack(River river) {
            river.copyFrom(nextRow());
        }

        void takeBack(River river) {
            next = (next + ROWS - 1) % ROWS;
            count--;
            river.copyFrom(nextRow());
        }

        void forgetAll() {
            count = 0;
        }
    }

    /** The latest denial; the number 0 stands for none, the cause 0 for no cause. */
    private static final class Denial {
        int number;
        int detail;
        int cause;
        int causeDetail;

        void keep(int newNumber, int newDetail, int newCause, int newCauseDetail) {
            number = newNumber;
            detail = newDetail;
            cause = newCause;
            causeDetail = newCauseDetail;
        }
    }

    /** The commands of a text: the word, then a letter for each parameter (number, digit, letter of a rule). */
    private enum Kind {
        REACH("reach ", "nnn"),
        CUT("cut", ""),
        LATERAL("lateral ", "dn"),
        FILL("fill ", "dn"),
        STAGES("stages ", "dnn"),
        GATE("gate ", "dn"),
        RULE("rule ", "dl"),
        PULSE("pulse ", "nnn"),
        PASS("pass ", "n");

        final String word;
        final String parameters;

        Kind(String word, String parameters) {
            this.word = word;
            this.parameters = parameters;
        }
    }

    private static final class Command {
        Kind kind = Kind.CUT;
        int first;
        int second;
        int third;

        void put(int place, int value) {
            if (place == 0) {
                first = value;
            } else if (place == 1) {
                second = value;
            } else {
                third = value;
            }
        }
    }

    /** The text buffer and the commands that were read from it last. */
    private static final class Text {
        // An array, as the buffer takes any character and a String here only those up to 255.
        private final char[] signs = new char[MOST_SIGNS];
        private final Command[] commands = new Command[MOST_COMMANDS];
        private int length;
        // Where the reading stands; when it fails, this is the fault position.
        private int position;
        int commandCount;

        Text() {
            for (int i = 0; i < MOST_COMMANDS; i++) {
                commands[i] = new Command();
            }
        }

        boolean isFull() {
            return !within(length, 0, MOST_SIGNS - 1);
        }

        int append(char sign) {
            if (!isFull()) {
                signs[length] = sign;
                length++;
            }
            return length;
        }

        void empty() {
            length = 0;
        }

        Command commandAt(int index) {
            return commands[index >= 0 && index < MOST_COMMANDS ? index : 0];
        }

        /** Reads the commands; returns the fault position, or NONE if the text matches the grammar. */
        int parse() {
            position = 0;
            for (int index = 0; index < MOST_COMMANDS; index++) {
                if (!takeCommand(commands[index])) {
                    return position;
                }
                commandCount = index + 1;
                if (position == length) {
                    return NONE;
                }
                if (!takeSign(';')) {
                    return position;
                }
            }
            return position;
        }

        private boolean takeCommand(Command command) {
            Kind kind = takeWord();
            if (kind == null) {
                return false;
            }
            command.kind = kind;
            for (int place = 0; place < kind.parameters.length(); place++) {
                if (place > 0 && !takeSign(' ')) {
                    return false;
                }
                int value = takeParameter(kind.parameters.charAt(place));
                if (value == NONE) {
                    return false;
                }
                command.put(place, value);
            }
            return true;
        }

        /** No word begins another one, so a word that stands here whole is the only one that can. */
        private Kind takeWord() {
            int longest = 0;
            for (Kind kind : KINDS) {
                int shared = sharedLength(kind.word);
                if (shared == kind.word.length()) {
                    position += shared;
                    return kind;
                }
                longest = Math.max(longest, shared);
            }
            position += longest;
            return null;
        }

        private int sharedLength(String word) {
            for (int i = 0; i < word.length(); i++) {
                if (signAt(position + i) != word.charAt(i)) {
                    return i;
                }
            }
            return word.length();
        }

        private int takeParameter(char form) {
            if (form == 'l') {
                return takeLetter();
            }
            return takeDigits(form == 'd' ? 1 : 3);
        }

        private int takeLetter() {
            int sign = signAt(position);
            if (!isRule(sign)) {
                return NONE;
            }
            position++;
            return sign;
        }

        private int takeDigits(int most) {
            int value = NONE;
            for (int taken = 0; taken < most; taken++) {
                int sign = signAt(position);
                if (!within(sign, '0', '9')) {
                    return value;
                }
                value = Math.max(value, 0) * 10 + sign - '0';
                position++;
            }
            return value;
        }

        private boolean takeSign(char sign) {
            if (signAt(position) != sign) {
                return false;
            }
            position++;
            return true;
        }

        private int signAt(int index) {
            return index >= 0 && index < length && index < MOST_SIGNS ? signs[index] : NONE;
        }
    }
}
