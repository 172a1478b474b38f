import java.lang.reflect.InvocationTargetException;
import java.lang.reflect.Method;
import java.util.ArrayList;
import java.util.Arrays;
import java.util.Comparator;
import java.util.List;
import java.util.Random;

/** Sets the class against Model in long runs of calls that are drawn by fixed seeds. */
public final class ModelTest {
    private static final int RUNS = 1500;
    private static final int CALLS = 400;
    private static int wrong = 0;

    private final Random random;
    private final AlarmRule rule = new AlarmRule();
    private final Model model = new Model();
    private final List<String> log = new ArrayList<>();
    private int sleepers = 0;
    private int clocks = 0;

    private ModelTest(long seed) {
        random = new Random(seed);
    }

    public static void main(String[] args) throws Exception {
        for (int run = 0; run < RUNS && wrong == 0; run++) {
            new ModelTest(run).run(run);
        }
        System.out.println(wrong == 0 ? RUNS + " runs answer as the model does" : "the model answers otherwise");
        if (wrong != 0) System.exit(1);
    }

    private void run(int number) throws Exception {
        List<Method> asked = new ArrayList<>();
        for (Method m : AlarmRule.class.getDeclaredMethods()) {
            boolean open = java.lang.reflect.Modifier.isPublic(m.getModifiers());
            if (open && !List.of("republic", "law", "work", "book", "feed").contains(m.getName())) asked.add(m);
        }
        asked.sort(Comparator.comparing(Method::getName));
        text("republic", republicText());
        for (int i = 0; i < CALLS && wrong == 0; i++) {
            int kind = random.nextInt(100);
            if (kind < 2) text("republic", spoilt(republicText()));
            else if (kind < 6) text("law", spoilt(sum(0)));
            else if (kind < 20) text("work", spoilt(workText()));
            else if (kind < 24) text("book", spoilt(bookText()));
            else if (kind < 25) strayText();
            else ask(asked.get(random.nextInt(asked.size())));
        }
        if (wrong != 0) {
            System.out.println("run " + number + ":");
            for (String line : log) System.out.println("  " + line);
        }
    }

    private void text(String kind, String text) throws Exception {
        int most = kind.equals("republic") ? 600 : kind.equals("book") ? 60 : 150;
        if (text.length() > most) text = text.substring(0, most);
        byte[] bytes = Arrays.copyOf(text.getBytes("ISO-8859-1"), (text.length() + 19) / 20 * 20);
        java.nio.IntBuffer ints = java.nio.ByteBuffer.wrap(bytes).asIntBuffer();
        while (ints.hasRemaining()) {
            Object[] five = {ints.get(), ints.get(), ints.get(), ints.get(), ints.get()};
            call("feed", five);
        }
        log.add(kind + " " + text);
        call(kind, text.length());
        call("fault");
        sleepers = model.told(0);
        clocks = model.told(1);
    }

    /** Lengths that no text has, a tape that is left behind, and one that is too long. */
    private void strayText() throws Exception {
        int feeds = random.nextInt(34);
        for (int i = 0; i < feeds; i++) call("feed", random.nextInt(), 0x20202020, 0x68310ff, random.nextInt(), 7);
        call("count", 1);
        call(List.of("republic", "law", "work", "book").get(random.nextInt(4)), random.nextInt(720) - 40);
        call("fault");
        sleepers = model.told(0);
        clocks = model.told(1);
    }

    private void ask(Method m) throws Exception {
        Object[] args = new Object[m.getParameterCount()];
        boolean wild = random.nextInt(12) == 0;
        int[][] limits = limits(m.getName());
        for (int i = 0; i < args.length; i++) {
            int least = limits[i][0];
            int most = limits[i][1];
            args[i] = wild && random.nextInt(3) == 0
                ? (random.nextInt(4) == 0 ? random.nextInt() : least - 2 + random.nextInt(most - least + 5))
                : least + random.nextInt(Math.max(1, most - least + 1));
        }
        if (m.getName().equals("year") || m.getName().equals("span")) {
            args[0] = random.nextBoolean() ? random.nextInt() : Integer.MAX_VALUE - random.nextInt(3);
        }
        if (m.getName().equals("restore") && random.nextInt(3) != 0) return;
        call(m.getName(), args);
    }

    private int[][] limits(String name) {
        int s = sleepers - 1;
        int c = clocks - 1;
        int[] person = {0, s};
        int[] thing = {0, c};
        int[] people = {0, (1 << sleepers) - 1};
        int[] yes = {0, 1};
        int[] three = {0, 2};
        return switch (name) {
            case "told" -> new int[][] {{0, 11}};
            case "sleeper" -> new int[][] {person, {0, 4}};
            case "clock" -> new int[][] {thing, {0, 3}};
            case "near", "noise" -> new int[][] {person, thing};
            case "would" -> new int[][] {{1, 30}, {0, 9}, {1, 60}, yes, {0, 23}, {0, 300}, {0, 7}, {0, 20}, {0, 6}};
            case "rung" -> new int[][] {{0, (1 << clocks) - 1}};
            case "ahead" -> new int[][] {{0, 99}, three};
            case "wakes", "crown", "swing", "all" -> new int[][] {person};
            case "just", "each" -> new int[][] {people};
            case "which" -> new int[][] {three};
            case "ask", "votes", "stroke", "lightest" -> new int[][] {yes};
            case "lasts", "deaf" -> new int[][] {thing};
            case "coup" -> new int[][] {{0, 99}, {0, 20}, three};
            case "prophet" -> new int[][] {{0, 12}, {0, 13}, {0, 16}, yes};
            case "dreams" -> new int[][] {person, people, {0, random.nextInt(4) == 0 ? 999 : 200}};
            case "loudest" -> new int[][] {person, yes};
            case "lacks" -> new int[][] {person, {0, 23}};
            case "year" -> new int[][] {{0, 0}, {1, 30}, {0, 16}, {0, 3}};
            case "span" -> new int[][] {{0, 0}, {1, 10}, {1, 30}, {0, 16}, three, person};
            case "status", "count" -> new int[][] {{-1, 3}};
            default -> new int[0][];
        };
    }

    private void call(String name, Object... args) throws Exception {
        Class<?>[] types = new Class<?>[args.length];
        Arrays.fill(types, int.class);
        String got = answer(AlarmRule.class.getMethod(name, types), rule, args);
        String due = answer(Model.class.getDeclaredMethod(name, types), model, args);
        log.add(name + Arrays.toString(args) + " answered " + got);
        if (!got.equals(due)) {
            wrong++;
            log.add("  due is " + due);
        }
    }

    private static String answer(Method m, Object on, Object[] args) throws Exception {
        try {
            return String.valueOf(m.invoke(on, args));
        } catch (InvocationTargetException e) {
            return e.getCause().getClass().getName();
        }
    }

    private int upTo(int most) {
        return random.nextInt(most + 1);
    }

    private String blanks() {
        return random.nextInt(6) == 0 ? "  ".substring(upTo(1)) : "";
    }

    private String word(String word) {
        return blanks() + word + " ";
    }

    private String num(int least, int most) {
        int value = least + random.nextInt(Math.max(1, most - least + 1));
        int off = random.nextInt(150);
        String zeros = random.nextInt(25) == 0 ? "00" : "";
        return blanks() + zeros + (off == 0 ? most + 1 : off == 1 ? Math.max(0, least - 1) : value) + " " + blanks();
    }

    private String republicText() {
        StringBuilder text = new StringBuilder();
        int people = random.nextInt(8) == 0 ? upTo(8) : 1 + upTo(6);
        int things = random.nextInt(8) == 0 ? upTo(7) : 1 + upTo(5);
        int deepest = random.nextBoolean() ? 60 : 30;
        for (int i = 0; i < people; i++) text.append(word("sleeper")).append(num(1, deepest)).append(num(1, 9)).append(';');
        for (int i = 0; i < things; i++) text.append(word("clock")).append(num(1, 30)).append(num(0, 20)).append(';');
        int nears = people == 0 || things == 0 ? 0 : upTo(12);
        for (int i = 0; i < nears; i++) {
            text.append(word("near")).append(num(0, people - 1)).append(num(0, things - 1)).append(num(0, 9)).append(';');
        }
        if (random.nextBoolean()) text.append(word("socks")).append(num(0, 9)).append(';');
        if (random.nextInt(30) == 0) for (int i = 0; i < 50; i++) text.append("socks").append(upTo(9)).append(';');
        return text + blanks();
    }

    private String sum(int deep) {
        StringBuilder text = new StringBuilder(product(deep));
        for (int i = upTo(2); i > 0; i--) text.append(random.nextBoolean() ? "+" : " - ").append(product(deep));
        return text + (deep == 0 ? blanks() : "");
    }

    private String product(int deep) {
        StringBuilder text = new StringBuilder(unit(deep));
        for (int i = upTo(4) / 2; i > 0; i--) text.append("*/%".charAt(upTo(2))).append(unit(deep));
        return text.toString();
    }

    private String unit(int deep) {
        int kind = upTo(11);
        if (kind == 0 && deep < 7) return "(" + sum(deep + 1) + ")";
        if (kind == 1 && deep < 7) return "least[" + sum(deep + 1) + "," + sum(deep + 1) + "]";
        if (kind == 2 && deep < 7) return "most [" + sum(deep + 1) + " ," + sum(deep + 1) + "]";
        if (kind < 5) return num(0, random.nextBoolean() ? 9 : 999).trim();
        String[] names = {"loud", "near", "depth", "sock", "hour", "day", "awake", "spring", "sleeper"};
        return blanks() + names[upTo(8)];
    }

    private String workText() {
        if (random.nextInt(60) == 0) return "again 6[".repeat(1 + upTo(7)) + "hour;" + "];".repeat(upTo(7));
        if (random.nextInt(25) == 0) return "again 60 [again 60 [hour;];];";
        StringBuilder text = new StringBuilder();
        for (int i = upTo(9); i > 0; i--) text.append(step(0)).append(';');
        return text + blanks();
    }

    private String step(int deep) {
        int kind = upTo(10);
        if (kind == 0 || kind == 1 && deep == 0) {
            StringBuilder body = new StringBuilder();
            for (int i = upTo(3); i > 0 && deep < 7; i--) body.append(step(deep + 1)).append(';');
            return word("again") + num(0, random.nextBoolean() ? 30 : 60) + "[" + body + blanks() + "]";
        }
        if (kind < 5) return blanks() + "hour";
        if (kind == 5 && sleepers > 0) return word("snooze") + num(0, sleepers - 1);
        if (clocks == 0 || sleepers == 0) return "hour";
        String clock = num(0, clocks - 1);
        if (kind == 6) return word("move") + clock + num(0, sleepers - 1) + num(0, 9);
        if (kind == 7) return word(random.nextBoolean() ? "let" : "wind") + clock;
        if (kind == 8) return word("sock") + clock;
        return word("set") + clock + num(0, random.nextBoolean() ? 23 : 6);
    }

    private String bookText() {
        StringBuilder text = new StringBuilder();
        int first = upTo(6);
        for (int i = upTo(Math.max(0, sleepers)); i > 0; i--) {
            int s = sleepers == 0 ? 0 : random.nextInt(40) == 0 ? upTo(sleepers) : (first + i) % sleepers;
            text.append(s).append(' ').append(num(0, 1)).append(';');
        }
        return text + blanks();
    }

    private String spoilt(String text) {
        if (random.nextInt(5) != 0 || text.isEmpty()) return text;
        int at = random.nextInt(text.length());
        String all = "0123456789 ;[](),+-*/%abhlmnosuw A\u00e9\u0000~";
        char sign = all.charAt(random.nextInt(all.length()));
        return switch (random.nextInt(4)) {
            case 0 -> text.substring(0, at);
            case 1 -> text.substring(0, at) + sign + text.substring(at);
            case 2 -> text.substring(0, at) + text.substring(at + 1);
            default -> text.substring(0, at) + sign + text.substring(at + 1);
        };
    }
}
