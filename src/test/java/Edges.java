import java.lang.reflect.Field;
import java.lang.reflect.InvocationTargetException;
import java.lang.reflect.Method;
import java.util.Arrays;
import java.util.Comparator;
import java.util.List;
import java.util.NoSuchElementException;
import java.util.function.Supplier;

/**
 * What the tests of boundary cases share. Such a test is a method without arguments, named by its promise (p03_..)
 * or by the paragraph of "Terms" (t1_ to t3_) in which the sentence stands; runAll runs all of a class.
 */
final class Edges {
    /** Three sleepers, three clocks, of which the last has no spring, and one sock. */
    static final String TRIO = "sleeper 20 3;sleeper 35 4;sleeper 9 1;clock 12 4;clock 25 2;clock 30 0;"
        + "near 0 0 2;near 1 1 5;near 2 0 1;socks 1;";
    /** As many sleepers and clocks as there can be. */
    static final String FULL = "sleeper 10 1;sleeper 20 2;sleeper 30 3;sleeper 40 4;sleeper 50 5;sleeper 60 6;"
        + "sleeper 1 7;clock 5 1;clock 10 2;clock 15 3;clock 20 4;clock 25 5;clock 30 6;";
    /** The kinds of FAULTS, as the calls answer them. */
    static final int MISPLACED = -9;
    static final int NO_SUCH = -8;
    static final int TOO_MANY = -7;

    interface Call {
        long on(AlarmRule x);
    }

    interface NumberCall {
        long on(AlarmRule x, int number);
    }

    interface TextCall {
        int on(AlarmRule x, String text);
    }

    static void runAll(Class<?> tests, String... namedBy) throws Exception {
        Method[] methods = tests.getDeclaredMethods();
        Arrays.sort(methods, Comparator.comparing(Method::getName));
        for (String prefix : namedBy) {
            boolean there = Arrays.stream(methods).anyMatch(m -> m.getName().startsWith(prefix + "_"));
            Checks.due(tests.getName() + " has a test " + prefix, 1, there ? 1 : 0);
        }
        for (Method m : methods) {
            String prefix = m.getName().split("_")[0];
            if (!m.getName().contains("_") || m.isSynthetic()) continue;
            if (!Arrays.asList(namedBy).contains(prefix)) throw new IllegalStateException(m.getName());
            m.setAccessible(true);
            Checks.within = m.getName();
            try {
                m.invoke(null);
            } catch (InvocationTargetException e) {
                Checks.due("threw " + e.getCause(), 0, 1);
            }
        }
        Checks.within = "";
        Checks.end(tests.getName());
    }

    /** The prefixes p09, p10, .. */
    static String[] promises(int first, int last) {
        String[] names = new String[last - first + 1];
        for (int i = first; i <= last; i++) names[i - first] = String.format("p%02d", i);
        return names;
    }

    /** In the midst of things: works, images, a law, a book, a fault at 6; nothing is on the tape. */
    static AlarmRule busyWithoutTape() {
        AlarmRule x = Checks.with(TRIO, "set 0 2;sock 1;hour;hour;hour;set 1 9;set 2 9;hour;hour;");
        x.image();
        Checks.work(x, "snooze 2;let 0;let 0;set 0 7;wind 2;move 0 0 2;move 1 0 4;");
        x.image();
        Checks.work(x, "hour;hour;hour;snooze 1;snooze 0;hour;");
        Checks.law(x, "loud + near * 2 - sock * 9 + spring");
        Checks.book(x, "1 0;");
        Checks.law(x, "loud +");
        return x;
    }

    /** The same, with a law on the tape. */
    static AlarmRule busy() {
        AlarmRule x = busyWithoutTape();
        Checks.feed(x, "loud % 7 + hour");
        return x;
    }

    static AlarmRule full() {
        return Checks.with(FULL, "set 0 3;set 5 3;");
    }

    // What is allowed, and what is refused.

    static void allowed(Supplier<AlarmRule> made, String label, Call call) {
        AlarmRule x = made.get();
        int missing = x.status(0);
        int wrong = x.status(1);
        try {
            call.on(x);
            Checks.due(label + " is allowed", missing + wrong, x.status(0) + x.status(1));
        } catch (RuntimeException e) {
            Checks.due(label + " threw " + e, 0, 1);
        }
    }

    static void illegal(Supplier<AlarmRule> made, String label, Call call) {
        refused(made, label, call, IllegalArgumentException.class);
    }

    static void noSuch(Supplier<AlarmRule> made, String label, Call call) {
        refused(made, label, call, NoSuchElementException.class);
    }

    /** The call throws, is counted once, by its reason, and leaves all else as in a twin that never had the call. */
    private static void refused(Supplier<AlarmRule> made, String label, Call call, Class<?> due) {
        AlarmRule twin = made.get();
        AlarmRule x = made.get();
        Class<?> thrown = null;
        long answer = 0;
        try {
            answer = call.on(x);
        } catch (RuntimeException e) {
            thrown = e.getClass();
        }
        String got = thrown == null ? "answered " + answer : "threw " + thrown.getSimpleName();
        Checks.due(label + " " + got + ", not " + due.getSimpleName(), 1, thrown == due ? 1 : 0);
        boolean missing = due == NoSuchElementException.class;
        Checks.due(label + ": status 0", twin.status(0) + (missing ? 1 : 0), x.status(0));
        Checks.due(label + ": status 1", twin.status(1) + (missing ? 0 : 1), x.status(1));
        Checks.due(label + ": told 11", twin.told(11), x.told(11));
        Checks.due(label + ": fault", twin.fault(), x.fault());
        same(label, twin, x);
    }

    /** The call answers that it did nothing, and leaves all as in a twin that never had it, status too. */
    static void doesNothing(Supplier<AlarmRule> made, String label, long answer, Call call) {
        AlarmRule twin = made.get();
        AlarmRule x = made.get();
        Checks.due(label, answer, call.on(x));
        Checks.due(label + ": status 0", twin.status(0), x.status(0));
        Checks.due(label + ": status 1", twin.status(1), x.status(1));
        Checks.due(label + ": told 11", twin.told(11), x.told(11));
        Checks.due(label + ": fault", twin.fault(), x.fault());
        same(label, twin, x);
    }

    static void same(String label, AlarmRule twin, AlarmRule x) {
        List<String> due = Portrait.whole(twin);
        List<String> got = Portrait.whole(x);
        Checks.due(label + ": as much to ask", due.size(), got.size());
        for (int i = 0; i < due.size() && i < got.size(); i++) {
            Checks.due(label + ": " + got.get(i) + ", all else stays: " + due.get(i), 1,
                due.get(i).equals(got.get(i)) ? 1 : 0);
        }
    }

    /** Numbers from least to most are allowed, the next ones are IllegalArgumentException. */
    static void range(Supplier<AlarmRule> made, String label, int least, int most, NumberCall call) {
        for (int number : new int[] {least, most}) allowed(made, label + " " + number, x -> call.on(x, number));
        for (int number : new int[] {least - 1, most + 1, Integer.MIN_VALUE, Integer.MAX_VALUE}) {
            illegal(made, label + " " + number, x -> call.on(x, number));
        }
    }

    static void range(String label, int least, int most, NumberCall call) {
        range(Edges::busy, label, least, most, call);
    }

    /** The numbers of sleepers (or clocks): three in a busy one, as many as there can be in a full one, none. */
    private static void numbered(String label, int most, NumberCall call) {
        for (int number : new int[] {0, 2}) allowed(Edges::busy, label + " " + number, x -> call.on(x, number));
        for (int number : new int[] {-1, 3, Integer.MIN_VALUE, Integer.MAX_VALUE}) {
            noSuch(Edges::busy, label + " " + number, x -> call.on(x, number));
        }
        allowed(Edges::full, label + " " + most, x -> call.on(x, most));
        for (int number : new int[] {-1, most + 1}) {
            Checks.noSuch(label + " " + number + " of a full one", () -> call.on(full(), number));
        }
        noSuch(AlarmRule::new, label + " 0 of a new one", x -> call.on(x, 0));
    }

    static void sleepers(String label, NumberCall call) {
        numbered(label, 6, call);
    }

    static void clocks(String label, NumberCall call) {
        numbered(label, 5, call);
    }

    // Texts.

    static void fine(TextCall kind, String text) {
        AlarmRule x = busyWithoutTape();
        Checks.due(text + " is fine", 1, kind.on(x, text) >= 0 ? 1 : 0);
        Checks.due(text + ": no fault", -1, x.fault());
        Checks.due(text + ": the tape is empty", 0, x.count(1));
    }

    /** The text has this fault there; all stays but the tape, which is empty. */
    static void fault(TextCall kind, String text, int answer, int place) {
        AlarmRule twin = busyWithoutTape();
        AlarmRule x = busyWithoutTape();
        Checks.due(text, answer, kind.on(x, text));
        Checks.due(text + ": place", place, x.fault());
        Checks.due(text + ": the tape is empty", 0, x.count(1));
        Checks.due(text + ": nothing is thrown", twin.status(0) + twin.status(1), x.status(0) + x.status(1));
        Checks.due(text + ": told 11", twin.told(11), x.told(11));
        same(text, twin, x);
    }

    /** Behind this text, and ahead of that one, numbers from least to most can stand. */
    static void numbers(TextCall kind, String ahead, int least, int most, String behind) {
        String[] right = {"" + least, "" + most, "000" + least, "0".repeat(30) + most};
        for (String number : right) fine(kind, ahead + number + behind);
        String[] wrong = {"" + (most + 1), "0" + (most + 1), "" + most + "0", "4294967297", "18446744073709551617",
            "9".repeat(30)};
        for (String number : wrong) {
            if (!number.equals("00")) fault(kind, ahead + number + behind, NO_SUCH, ahead.length());
        }
        if (least > 0) fault(kind, ahead + (least - 1) + behind, NO_SUCH, ahead.length());
        fault(kind, ahead + "-1" + behind, MISPLACED, ahead.length());
        fault(kind, ahead + "x" + behind, MISPLACED, ahead.length());
        if (!ahead.isEmpty()) fault(kind, ahead, MISPLACED, ahead.length());
    }

    /**
     * Sets the day and the hour from within: 16 works of 200 steps can't bring HOUR 23 of DAY 300 about, but the
     * document tells of it.
     */
    static void moveTo(AlarmRule x, int day, int hour) {
        try {
            Object morning = hidden(AlarmRule.class, "morning").get(x);
            int[] cells = (int[]) hidden(morning.getClass(), "cells").get(morning);
            cells[hidden(morning.getClass(), "DAY").getInt(null)] = day;
            cells[hidden(morning.getClass(), "HOUR").getInt(null)] = hour;
        } catch (ReflectiveOperationException e) {
            throw new IllegalStateException(e);
        }
    }

    private static Field hidden(Class<?> of, String name) throws NoSuchFieldException {
        Field field = of.getDeclaredField(name);
        field.setAccessible(true);
        return field;
    }
}
