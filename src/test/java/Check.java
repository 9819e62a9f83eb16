import java.util.function.IntFunction;
import java.util.function.Supplier;

/** What the tests share: it counts the answers that are not due and prints them. */
final class Check {
    /** A call whose answer is looked at; a boolean counts 1 or 0. */
    interface Call {
        double answer();
    }

    /** A call with a number that is tried at the ends of its range and beyond them. */
    interface NumberCall {
        double answer(RiverReaches river, int number);
    }

    private final String name;
    private int checks = 0;
    private int wrong = 0;

    Check(String name) {
        this.name = name;
    }

    void due(String call, double got, double want) {
        checks++;
        if (got != want) {
            wrong++;
            System.out.println(name + ": " + call + " answered " + got + ", due is " + want);
        }
    }

    void due(String call, boolean got, boolean want) {
        due(call, got ? 1 : 0, want ? 1 : 0);
    }

    void due(String call, String got, String want) {
        checks++;
        if (!got.equals(want)) {
            wrong++;
            System.out.println(name + ": " + call + " answered \"" + got + "\", due is \"" + want + "\"");
        }
    }

    /** The exception must be of this very class: a subclass of it was thrown by the machine. */
    void throwsDue(String call, Class<? extends RuntimeException> want, Call made) {
        checks++;
        String got;
        try {
            got = "" + made.answer();
        } catch (RuntimeException e) {
            if (e.getClass() == want) {
                return;
            }
            got = e.getClass().getSimpleName();
        }
        wrong++;
        System.out.println(name + ": " + call + " answered " + got + ", due is " + want.getSimpleName());
    }

    void outOfBounds(String call, Call made) {
        throwsDue(call, IndexOutOfBoundsException.class, made);
    }

    void illegal(String call, Call made) {
        throwsDue(call, IllegalArgumentException.class, made);
    }

    void noSuchElement(String call, Call made) {
        throwsDue(call, java.util.NoSuchElementException.class, made);
    }

    void illegalState(String call, Call made) {
        throwsDue(call, IllegalStateException.class, made);
    }

    /** The call is denied with this number and detail, and the denial has no cause. */
    void denied(RiverReaches river, String call, int number, int detail, Call made) {
        throwsDue(call, UnsupportedOperationException.class, made);
        due(call + ": denial()", river.denial(), number);
        due(call + ": denialDetail()", river.denialDetail(), detail);
        noSuchElement(call + ": denialCause()", river::denialCause);
        noSuchElement(call + ": denialCauseDetail()", river::denialCauseDetail);
    }

    /** A failed command of a text: denial 5 with its index, and the cause with its detail. */
    void failedCommand(RiverReaches river, String text, int index, int cause, int causeDetail) {
        throwsDue(text, UnsupportedOperationException.class, () -> run(river, text));
        due(text + ": denial()", river.denial(), 5);
        due(text + ": denialDetail()", river.denialDetail(), index);
        due(text + ": denialCause()", river.denialCause(), cause);
        due(text + ": denialCauseDetail()", river.denialCauseDetail(), causeDetail);
    }

    /** The text does not match the grammar, and its fault position is kept. */
    void fault(RiverReaches river, String text, int position) {
        illegal("\"" + text + "\"", () -> run(river, text));
        due("\"" + text + "\": faultPosition()", river.faultPosition(), position);
    }

    /** The call does not throw. */
    void accepted(String call, Call made) {
        checks++;
        try {
            made.answer();
        } catch (RuntimeException e) {
            wrong++;
            System.out.println(name + ": " + call + " answered " + e.getClass().getSimpleName());
        }
    }

    /** Both ends of the range are accepted and all beyond them is illegal, each on a river of its own. */
    void range(String call, int least, int greatest, Supplier<RiverReaches> fresh, NumberCall made) {
        for (int number : new int[] {least, greatest}) {
            RiverReaches river = fresh.get();
            accepted(call + " of " + number, () -> made.answer(river, number));
        }
        for (int number : new int[] {least - 1, greatest + 1, Integer.MIN_VALUE, Integer.MAX_VALUE}) {
            RiverReaches river = fresh.get();
            illegal(call + " of " + number, () -> made.answer(river, number));
        }
    }

    /** The call knows the reaches that the river has, of none, of one and of as many as there may be, and no other. */
    void reachIndexes(String call, IntFunction<RiverReaches> riverOf, NumberCall made) {
        for (int count : new int[] {0, 1, 8}) {
            for (int index : new int[] {0, count - 1}) {
                RiverReaches river = riverOf.apply(count);
                if (index >= 0 && index < count) {
                    accepted(call + " of reach " + index + " of " + count, () -> made.answer(river, index));
                }
            }
            for (int index : new int[] {-1, count, 8, Integer.MIN_VALUE, Integer.MAX_VALUE}) {
                RiverReaches river = riverOf.apply(count);
                outOfBounds(call + " of reach " + index + " of " + count, () -> made.answer(river, index));
            }
        }
    }

    /** A river with so many reaches, all of them alike. */
    static RiverReaches row(int count) {
        RiverReaches river = new RiverReaches();
        for (int i = 0; i < count; i++) {
            river.addReach(10, 20, 30);
        }
        return river;
    }

    /** A river with one reach that has this surface and this volume. */
    static RiverReaches filled(int surface, int volume) {
        RiverReaches river = new RiverReaches();
        river.addReach(surface, 20, 30);
        pour(river, 0, volume);
        return river;
    }

    static void pour(RiverReaches river, int reach, int volume) {
        for (int left = volume; left > 0; left -= 999) {
            river.fill(reach, Math.min(left, 999));
        }
    }

    static void passAll(RiverReaches river, int hours) {
        for (int left = hours; left > 0; left -= 48) {
            river.pass(Math.min(left, 48));
        }
    }

    static int run(RiverReaches river, String text) {
        feed(river, text);
        return river.execute();
    }

    static void feed(RiverReaches river, String text) {
        for (int i = 0; i < text.length(); i++) {
            river.feed(text.charAt(i));
        }
    }

    static String line(RiverReaches river, int length) {
        StringBuilder signs = new StringBuilder();
        for (int i = 0; i < length; i++) {
            signs.append(river.lineCharacter(i));
        }
        return signs.toString();
    }

    /** Everything that changes can change, as far as calls show it, and the number of undos. */
    static String state(RiverReaches river) {
        StringBuilder all = new StringBuilder();
        all.append(river.hour()).append(' ').append(river.pulseCount()).append(' ');
        all.append(river.totalIn()).append(' ').append(river.totalOut()).append(' ');
        all.append(river.alarms()).append(' ').append(river.undoCount()).append(" pulses");
        int now = river.hour();
        for (int hour = now; hour < now + 60; hour++) {
            all.append(' ').append(river.headInflow(hour));
        }
        all.append(' ').append(river.pendingInflow());
        for (int i = 0; i < river.reachCount(); i++) {
            all.append(" reach ").append(river.volume(i)).append('/').append(river.level(i));
            all.append(' ').append(river.lateral(i)).append(' ').append(river.status(i));
            all.append(' ').append(river.rule(i)).append(river.opening(i));
            all.append(' ').append(river.inflow(i)).append('>').append(river.outflow(i));
            if (!river.isFlooded(i)) {
                all.append(" room ").append(river.roomBelowFlood(i));
            }
        }
        return all.toString();
    }

    void finish() {
        System.out.println(name + ": " + checks + " checks, " + wrong + " wrong");
        if (wrong != 0) {
            System.exit(1);
        }
    }
}
