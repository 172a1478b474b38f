import java.util.NoSuchElementException;

/** What the tests that are written by hand share: texts are fed, answers set against those that are due. */
final class Checks {
    static int made = 0;
    static int wrong = 0;
    /** The name of the test that is run; empty where a class of tests has none. */
    static String within = "";

    interface Call {
        long answer();
    }

    static void due(String label, long want, long got) {
        made++;
        if (got != want) tellWrong(label + " answered " + got + ", due is " + want);
    }

    static void noSuch(String label, Call call) {
        refused(label, call, NoSuchElementException.class);
    }

    static void illegal(String label, Call call) {
        refused(label, call, IllegalArgumentException.class);
    }

    private static void refused(String label, Call call, Class<?> want) {
        made++;
        try {
            tellWrong(label + " answered " + call.answer() + ", due is " + want.getSimpleName());
        } catch (RuntimeException e) {
            if (e.getClass() != want) tellWrong(label + " threw " + e.getClass().getSimpleName());
        }
    }

    private static void tellWrong(String line) {
        wrong++;
        System.out.println(within.isEmpty() ? line : within + ": " + line);
    }

    /** Feeds a text, the last twenty bytes being filled up by zeros. */
    static void feed(AlarmRule x, String text) {
        for (int i = 0; i < text.length(); i += 20) {
            x.feed(four(text, i), four(text, i + 4), four(text, i + 8), four(text, i + 12), four(text, i + 16));
        }
    }

    private static int four(String text, int from) {
        int number = 0;
        for (int i = from; i < from + 4; i++) number = number << 8 | (i < text.length() ? text.charAt(i) : 0);
        return number;
    }

    static int republic(AlarmRule x, String text) {
        feed(x, text);
        return x.republic(text.length());
    }

    static int law(AlarmRule x, String text) {
        feed(x, text);
        return x.law(text.length());
    }

    static int work(AlarmRule x, String text) {
        feed(x, text);
        return x.work(text.length());
    }

    static int book(AlarmRule x, String text) {
        feed(x, text);
        return x.book(text.length());
    }

    static AlarmRule with(String republic) {
        AlarmRule x = new AlarmRule();
        if (republic(x, republic) < 0) tellWrong("no republic: " + republic);
        return x;
    }

    static AlarmRule with(String republic, String work) {
        AlarmRule x = with(republic);
        if (work(x, work) < 0) tellWrong("no work: " + work);
        return x;
    }

    static void end(String name) {
        System.out.println(name + ": " + made + " checks, " + wrong + " wrong");
        if (wrong != 0) System.exit(1);
    }
}
