import java.util.ArrayDeque;
import java.util.ArrayList;
import java.util.Comparator;
import java.util.Deque;
import java.util.List;
import java.util.NoSuchElementException;
import java.util.regex.Matcher;
import java.util.regex.Pattern;

/** The document written a second time, with the Java library and without care for cost, to compare answers with. */
public final class Model {
    private static final Pattern TEXT;

    static {
        String number = "[0-9]{1,3}";
        String command = "(reach N N N|cut|lateral [0-9] N|fill [0-9] N|stages [0-9] N N|gate [0-9] N"
                + "|rule [0-9] [fhr]|pulse N N N|pass N)";
        command = command.replace("N", number);
        TEXT = Pattern.compile(command + "(;" + command + ")*");
    }

    private static final class Denied extends UnsupportedOperationException {
        private static final long serialVersionUID = 1;

        final long number;
        final long detail;

        Denied(long number, long detail) {
            this.number = number;
            this.detail = detail;
        }
    }

    private record Pulse(long first, long hours, long rate) {
        boolean covers(long hour) {
            return first <= hour && hour <= first + hours - 1;
        }
    }

    private record Reach(long surface, long percentage, long capacity, long lateral, long volume,
            long warning, long flood, long setting, char rule) {
        long level() {
            return volume / surface;
        }

        int status() {
            return level() >= flood ? 2 : level() >= warning ? 1 : 0;
        }

        Reach withVolume(long other) {
            return new Reach(surface, percentage, capacity, lateral, other, warning, flood, setting, rule);
        }
    }

    private record State(List<Reach> reaches, List<Pulse> pulses, long hour, long in, long out, long alarms) {
        Reach at(int index) {
            if (index < 0 || index >= reaches.size()) {
                throw new IndexOutOfBoundsException();
            }
            return reaches.get(index);
        }

        State with(int index, Reach reach) {
            List<Reach> changed = new ArrayList<>(reaches);
            changed.set(index, reach);
            return new State(List.copyOf(changed), pulses, hour, in, out, alarms);
        }

        long head(long someHour) {
            return pulses.stream().filter(pulse -> pulse.covers(someHour)).mapToLong(Pulse::rate).sum();
        }

        long opening(int index) {
            Reach reach = at(index);
            boolean next = index + 1 < reaches.size();
            if (reach.rule() == 'h' && next && at(index + 1).status() == 2) {
                return reach.setting() / 2;
            }
            if (reach.rule() == 'r' && reach.status() == 2) {
                return 100;
            }
            return reach.setting();
        }

        long outflow(int index) {
            Reach reach = at(index);
            return Math.min(reach.volume() * reach.percentage() / 100, reach.capacity() * opening(index) / 100);
        }

        long inflow(int index) {
            return at(index).lateral() + (index == 0 ? head(hour) : outflow(index - 1));
        }

        long total() {
            return reaches.stream().mapToLong(Reach::volume).sum();
        }

        State next() {
            List<Reach> later = new ArrayList<>();
            long cameIn = head(hour);
            long raised = 0;
            for (int i = 0; i < reaches.size(); i++) {
                Reach now = at(i);
                Reach then = now.withVolume(now.volume() + inflow(i) - outflow(i));
                cameIn += now.lateral();
                raised += then.status() > now.status() ? 1 : 0;
                later.add(then);
            }
            long left = outflow(reaches.size() - 1);
            List<Pulse> pending = pulses.stream().filter(p -> p.first() + p.hours() > hour + 1).toList();
            return new State(List.copyOf(later), pending, hour + 1, in + cameIn, out + left, alarms + raised);
        }

        State after(int hours) {
            State state = this;
            for (int i = 0; i < hours && !reaches.isEmpty(); i++) {
                state = state.next();
            }
            return state;
        }
    }

    private State state = new State(List.of(), List.of(), 0, 0, 0, 0);
    private State saved = null;
    private final Deque<State> past = new ArrayDeque<>();
    private String buffer = "";
    private String line = "";
    private Integer fault = null;
    private long[] denied = null;

    private interface Change {
        long make();
    }

    private static void range(long value, long least, long greatest) {
        if (value < least || value > greatest) {
            throw new IllegalArgumentException();
        }
    }

    /** Makes a change as a whole or not at all, and keeps its denial. */
    private int change(Change change) {
        State before = state;
        try {
            long answer = change.make();
            past.addLast(before);
            if (past.size() > 8) {
                past.removeFirst();
            }
            return (int) answer;
        } catch (Denied denial) {
            state = before;
            denied = new long[] {denial.number, denial.detail};
            throw new UnsupportedOperationException();
        }
    }

    private long doAddReach(int surface, int percentage, int capacity) {
        range(surface, 1, 50);
        range(percentage, 5, 60);
        range(capacity, 1, 500);
        if (state.reaches.size() == 8) {
            throw new Denied(1, 8);
        }
        List<Reach> more = new ArrayList<>(state.reaches);
        more.add(new Reach(surface, percentage, capacity, 0, 0, 20, 40, 100, 'f'));
        state = new State(List.copyOf(more), state.pulses, state.hour, state.in, state.out, state.alarms);
        return more.size() - 1;
    }

    private long doRemoveLastReach() {
        if (state.reaches.isEmpty()) {
            throw new Denied(3, state.hour);
        }
        List<Reach> fewer = state.reaches.subList(0, state.reaches.size() - 1);
        long volume = state.at(fewer.size()).volume();
        state = new State(List.copyOf(fewer), state.pulses, state.hour, state.in, state.out + volume, state.alarms);
        return volume;
    }

    private long doSetLateral(int reach, int inflow) {
        Reach r = state.at(reach);
        range(inflow, 0, 50);
        if (r.lateral() == inflow) {
            throw new Denied(4, inflow);
        }
        state = state.with(reach, new Reach(r.surface, r.percentage, r.capacity, inflow, r.volume, r.warning, r.flood,
                r.setting, r.rule));
        return r.lateral();
    }

    private long doFill(int reach, int volume) {
        Reach r = state.at(reach);
        range(volume, 1, 999);
        State filled = state.with(reach, r.withVolume(r.volume() + volume));
        state = new State(filled.reaches, filled.pulses, filled.hour, filled.in + volume, filled.out, filled.alarms);
        return state.at(reach).level();
    }

    private long doSetStages(int reach, int warning, int flood) {
        Reach r = state.at(reach);
        range(warning, 1, 998);
        range(flood, 2, 999);
        range(flood, warning + 1, 999);
        state = state.with(reach, new Reach(r.surface, r.percentage, r.capacity, r.lateral, r.volume, warning, flood,
                r.setting, r.rule));
        return state.at(reach).status();
    }

    private long doSetGate(int reach, int setting) {
        Reach r = state.at(reach);
        range(setting, 0, 100);
        if (r.setting() == setting) {
            throw new Denied(4, setting);
        }
        state = state.with(reach, new Reach(r.surface, r.percentage, r.capacity, r.lateral, r.volume, r.warning,
                r.flood, setting, r.rule));
        return r.setting();
    }

    private long doSetRule(int reach, char rule) {
        Reach r = state.at(reach);
        if ("fhr".indexOf(rule) < 0) {
            throw new IllegalArgumentException();
        }
        if (r.rule() == rule) {
            throw new Denied(4, rule);
        }
        state = state.with(reach, new Reach(r.surface, r.percentage, r.capacity, r.lateral, r.volume, r.warning,
                r.flood, r.setting, rule));
        return state.opening(reach);
    }

    private long doAddPulse(int hour, int hours, int rate) {
        range(hour, 0, 999);
        range(hours, 1, 24);
        range(rate, 1, 200);
        if (hour < state.hour) {
            throw new Denied(2, state.hour);
        }
        if (state.pulses.size() == 8) {
            throw new Denied(1, 8);
        }
        List<Pulse> more = new ArrayList<>(state.pulses);
        more.add(new Pulse(hour, hours, rate));
        state = new State(state.reaches, List.copyOf(more), state.hour, state.in, state.out, state.alarms);
        return more.size();
    }

    private long doPass(int hours) {
        range(hours, 1, 48);
        if (state.reaches.isEmpty()) {
            throw new Denied(3, state.hour);
        }
        long before = state.out;
        state = state.after(hours);
        return state.out - before;
    }

    private long doCommand(String command) {
        String[] words = command.split(" ");
        int[] n = new int[4];
        for (int i = 1; i < words.length; i++) {
            char sign = words[i].charAt(0);
            n[i] = Character.isDigit(sign) ? Integer.parseInt(words[i]) : sign;
        }
        return switch (words[0]) {
            case "reach" -> doAddReach(n[1], n[2], n[3]);
            case "cut" -> doRemoveLastReach();
            case "lateral" -> doSetLateral(n[1], n[2]);
            case "fill" -> doFill(n[1], n[2]);
            case "stages" -> doSetStages(n[1], n[2], n[3]);
            case "gate" -> doSetGate(n[1], n[2]);
            case "rule" -> doSetRule(n[1], (char) n[2]);
            case "pulse" -> doAddPulse(n[1], n[2], n[3]);
            default -> doPass(n[1]);
        };
    }

    public int addReach(int surface, int percentage, int capacity) {
        return change(() -> doAddReach(surface, percentage, capacity));
    }

    public int removeLastReach() {
        return change(this::doRemoveLastReach);
    }

    public int setLateral(int reach, int inflow) {
        return change(() -> doSetLateral(reach, inflow));
    }

    public int fill(int reach, int volume) {
        return change(() -> doFill(reach, volume));
    }

    public int setStages(int reach, int warning, int flood) {
        return change(() -> doSetStages(reach, warning, flood));
    }

    public int setGate(int reach, int setting) {
        return change(() -> doSetGate(reach, setting));
    }

    public int setRule(int reach, char rule) {
        return change(() -> doSetRule(reach, rule));
    }

    public int addPulse(int hour, int hours, int rate) {
        return change(() -> doAddPulse(hour, hours, rate));
    }

    public int pass(int hours) {
        return change(() -> doPass(hours));
    }

    public int reachCount() {
        return state.reaches.size();
    }

    public int volume(int reach) {
        return (int) state.at(reach).volume();
    }

    public int lateral(int reach) {
        return (int) state.at(reach).lateral();
    }

    public int inflow(int reach) {
        return (int) state.inflow(reach);
    }

    public int outflow(int reach) {
        return (int) state.outflow(reach);
    }

    public int level(int reach) {
        return (int) state.at(reach).level();
    }

    public int status(int reach) {
        return state.at(reach).status();
    }

    public boolean isFlooded(int reach) {
        return status(reach) == 2;
    }

    public int opening(int reach) {
        return (int) state.opening(reach);
    }

    public char rule(int reach) {
        return state.at(reach).rule();
    }

    public int roomBelowFlood(int reach) {
        Reach r = state.at(reach);
        if (r.status() == 2) {
            throw new NoSuchElementException();
        }
        int room = 0;
        while (r.withVolume(r.volume() + room + 1).status() != 2) {
            room++;
        }
        return room;
    }

    public int reachByLevel(int rank) {
        List<Integer> order = new ArrayList<>();
        for (int i = 0; i < reachCount(); i++) {
            order.add(i);
        }
        order.sort(Comparator.comparingInt((Integer i) -> -level(i)).thenComparingInt(i -> -volume(i))
                .thenComparingInt(i -> i));
        if (rank < 0 || rank >= order.size()) {
            throw new NoSuchElementException();
        }
        return order.get(rank);
    }

    public int hour() {
        return (int) state.hour;
    }

    public int pulseCount() {
        return state.pulses.size();
    }

    public int headInflow(int hour) {
        if (hour < state.hour) {
            throw new IllegalArgumentException();
        }
        return (int) state.head(hour);
    }

    public int pendingInflow() {
        long sum = 0;
        for (long hour = state.hour; hour < 1100; hour++) {
            sum += state.head(hour);
        }
        return (int) sum;
    }

    public int pendingInflowByPulses() {
        return pendingInflow();
    }

    public int levelAfter(int reach, int hours) {
        state.at(reach);
        range(hours, 0, 48);
        return (int) state.after(hours).at(reach).level();
    }

    public int peakLevel(int reach, int hours) {
        int peak = levelAfter(reach, hours);
        State later = state;
        for (int i = 0; i < hours; i++) {
            peak = Math.max(peak, (int) later.at(reach).level());
            later = later.next();
        }
        return peak;
    }

    public int hoursUntilFlood(int reach) {
        state.at(reach);
        State later = state;
        for (int i = 0; i <= 48; i++) {
            if (later.at(reach).status() == 2) {
                return i;
            }
            later = later.next();
        }
        throw new NoSuchElementException();
    }

    public int volumeAfter(int hours) {
        range(hours, 0, 48);
        return (int) state.after(hours).total();
    }

    public int volumeAfterByBalance(int hours) {
        return volumeAfter(hours);
    }

    public int totalVolume() {
        return (int) state.total();
    }

    public int totalIn() {
        return (int) state.in;
    }

    public int totalOut() {
        return (int) (state.in - state.total());
    }

    public int alarms() {
        return (int) state.alarms;
    }

    public double meanLevel() {
        long sum = state.reaches.stream().mapToLong(Reach::level).sum();
        if (state.reaches.isEmpty()) {
            throw new ArithmeticException();
        }
        return (double) sum / (double) state.reaches.size();
    }

    public float floodedShare() {
        long sum = state.reaches.stream().filter(r -> r.status() == 2).count();
        if (state.reaches.isEmpty()) {
            throw new ArithmeticException();
        }
        return (float) sum / (float) state.reaches.size();
    }

    public int feed(char character) {
        if (buffer.length() == 60) {
            throw new IllegalStateException();
        }
        buffer += character;
        return buffer.length();
    }

    public int execute() {
        String text = buffer;
        buffer = "";
        if (!TEXT.matcher(text).matches()) {
            fault = faultOf(text);
            throw new IllegalArgumentException();
        }
        String[] commands = text.split(";");
        State before = state;
        for (int i = 0; i < commands.length; i++) {
            long[] failure = failureOf(commands[i]);
            if (failure != null) {
                denied = new long[] {5, i, failure[0], failure[1]};
                state = before;
                throw new UnsupportedOperationException();
            }
        }
        State after = state;
        state = before;
        return change(() -> {
            state = after;
            return commands.length;
        });
    }

    /** Makes the change of a command; returns the cause of its failure and the detail, or null. */
    private long[] failureOf(String command) {
        try {
            doCommand(command);
            return null;
        } catch (Denied denial) {
            return new long[] {denial.number, denial.detail};
        } catch (RuntimeException other) {
            return new long[] {6, 0};
        }
    }

    /** A prefix can be continued if the whole of it matched so far when the matcher ran into its end. */
    private static int faultOf(String text) {
        for (int length = 1; length <= text.length(); length++) {
            Matcher matcher = TEXT.matcher(text.substring(0, length));
            if (!matcher.matches() && !matcher.hitEnd()) {
                return length - 1;
            }
        }
        return text.length();
    }

    public int faultPosition() {
        if (fault == null) {
            throw new NoSuchElementException();
        }
        return fault;
    }

    public int writeReach(int reach) {
        Reach r = state.at(reach);
        line = reach + "=" + r.volume() + "/" + r.surface() + "@" + r.level() + "!".repeat(r.status()) + " "
                + r.rule() + state.opening(reach);
        return line.length();
    }

    public int writeRiver() {
        List<String> levels = state.reaches.stream().map(r -> r.level() + (r.status() == 2 ? "!" : "")).toList();
        line = String.join(">", levels);
        return line.length();
    }

    public char lineCharacter(int index) {
        if (index < 0 || index >= line.length()) {
            throw new IndexOutOfBoundsException();
        }
        return line.charAt(index);
    }

    private int ofDenial(int place) {
        if (denied == null || denied.length <= place) {
            throw new NoSuchElementException();
        }
        return (int) denied[place];
    }

    public int denial() {
        return ofDenial(0);
    }

    public int denialDetail() {
        return ofDenial(1);
    }

    public int denialCause() {
        return ofDenial(2);
    }

    public int denialCauseDetail() {
        return ofDenial(3);
    }

    public int undo() {
        if (past.isEmpty()) {
            throw new IllegalStateException();
        }
        state = past.removeLast();
        return past.size();
    }

    public int undoCount() {
        return past.size();
    }

    public int saveSnapshot() {
        saved = state;
        return reachCount();
    }

    public int restoreSnapshot() {
        if (saved == null) {
            throw new IllegalStateException();
        }
        state = saved;
        past.clear();
        return reachCount();
    }
}
