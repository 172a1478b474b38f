import java.util.ArrayList;
import java.util.Arrays;
import java.util.HashMap;
import java.util.List;
import java.util.Map;
import java.util.NoSuchElementException;
import java.util.function.IntPredicate;

/**
 * The document once more, written from its words alone and as slowly as it likes (trees, lists, copies,
 * every question answered by trying all), so that ModelTest can set the class against it.
 */
final class Model {
    static final int NONE = -1;

    private static final class Fault extends RuntimeException {
        final int kind;
        final int place;

        Fault(int kind, int place) {
            this.kind = kind;
            this.place = place;
        }
    }

    private record Token(char kind, String text, int place) { }

    private static final class Tokens {
        final List<Token> list = new ArrayList<>();
        int next = 0;

        Tokens(String text) {
            int i = 0;
            while (i < text.length()) {
                int from = i;
                char c = text.charAt(i);
                if (c == ' ') {
                    i++;
                    continue;
                }
                if (c >= '0' && c <= '9') {
                    while (i < text.length() && text.charAt(i) >= '0' && text.charAt(i) <= '9') i++;
                    list.add(new Token('n', text.substring(from, i), from));
                } else if (c >= 'a' && c <= 'z') {
                    while (i < text.length() && text.charAt(i) >= 'a' && text.charAt(i) <= 'z') i++;
                    list.add(new Token('w', text.substring(from, i), from));
                } else {
                    i++;
                    list.add(new Token('s', text.substring(from, i), from));
                }
            }
            list.add(new Token('e', "", text.length()));
        }

        Token peek() {
            return list.get(next);
        }

        Token take() {
            return list.get(next++);
        }

        boolean sees(String sign) {
            return peek().text.equals(sign);
        }

        void sign(String sign) {
            if (!sees(sign)) throw new Fault(1, peek().place);
            take();
        }

        int number(IntPredicate fine) {
            Token t = peek();
            if (t.kind != 'n') throw new Fault(1, t.place);
            take();
            java.math.BigInteger big = new java.math.BigInteger(t.text);
            if (big.bitLength() > 20 || !fine.test(big.intValue())) throw new Fault(2, t.place);
            return big.intValue();
        }

        int number(int least, int most) {
            return number(v -> v >= least && v <= most);
        }

        Token word(String... words) {
            Token t = peek();
            if (t.kind != 'w' || !Arrays.asList(words).contains(t.text)) throw new Fault(1, t.place);
            return take();
        }
    }

    private static final class State {
        int hour, day, socks = 2;
        List<Integer> spring = new ArrayList<>(), set = new ArrayList<>();
        List<Boolean> sock = new ArrayList<>();
        List<Integer> woke = new ArrayList<>(), snoozed = new ArrayList<>(), led = new ArrayList<>();
        Map<Integer, Integer> near = new HashMap<>();

        State copy() {
            State s = new State();
            s.hour = hour;
            s.day = day;
            s.socks = socks;
            s.spring.addAll(spring);
            s.set.addAll(set);
            s.sock.addAll(sock);
            s.woke.addAll(woke);
            s.snoozed.addAll(snoozed);
            s.led.addAll(led);
            s.near.putAll(near);
            return s;
        }

        int near(int s, int c) {
            return near.getOrDefault(s * 100 + c, 0);
        }

        int awake() {
            int bits = 0;
            for (int i = 0; i < woke.size(); i++) if (woke.get(i) >= 0) bits |= 1 << i;
            return bits;
        }

        int first() {
            int best = NONE;
            for (int i = woke.size() - 1; i >= 0; i--) {
                if (woke.get(i) >= 0 && (best < 0 || woke.get(i) <= woke.get(best))) best = i;
            }
            return best;
        }

        int springs() {
            return spring.stream().mapToInt(v -> v).sum();
        }
    }

    private interface Expression {
        int value(Map<String, Integer> names);
    }

    private interface Step {
        void run();
    }

    private record Image(State state, List<State> works) { }

    private StringBuilder tape = new StringBuilder();
    private List<int[]> sleepers = new ArrayList<>();
    private List<Integer> louds = new ArrayList<>();
    private State state = new State();
    private Expression law = plainLaw();
    private Map<Integer, Integer> book = new HashMap<>();
    private List<State> works = new ArrayList<>();
    private List<Image> images = new ArrayList<>();
    private int refused = 0;
    private int faultPlace = NONE;
    private int missing = 0;
    private int wrong = 0;
    private int begun, done, refusedNow;

    private static Expression plainLaw() {
        return m -> m.get("loud") + m.get("near") * 3 - m.get("sock") * 12;
    }

    private void wrongUnless(boolean fine) {
        if (!fine) {
            wrong++;
            throw new IllegalArgumentException();
        }
    }

    private void haveSleeper(int s) {
        if (s < 0 || s >= sleepers.size()) {
            missing++;
            throw new NoSuchElementException();
        }
    }

    private void haveClock(int c) {
        if (c < 0 || c >= louds.size()) {
            missing++;
            throw new NoSuchElementException();
        }
    }

    public int feed(int a, int b, int c, int d, int e) {
        if (tape.length() + 20 > 600) return NONE;
        for (int number : new int[] {a, b, c, d, e}) {
            for (byte one : java.nio.ByteBuffer.allocate(4).putInt(number).array()) tape.append((char) (one & 0xff));
        }
        return tape.length();
    }

    private String text(int n, int most) {
        wrongUnless(n >= 0 && n <= most && n <= tape.length());
        String text = tape.substring(0, n);
        tape.setLength(0);
        faultPlace = NONE;
        return text;
    }

    private int failed(Fault f) {
        faultPlace = f.place;
        return f.kind - 10;
    }

    public int republic(int n) {
        String text = text(n, 600);
        List<int[]> newSleepers = new ArrayList<>();
        List<Integer> newLouds = new ArrayList<>();
        State fresh = new State();
        try {
            Tokens t = new Tokens(text);
            int clauses = 0;
            while (t.peek().kind != 'e') {
                Token w = t.word("sleeper", "clock", "near", "socks");
                if (++clauses > 60) throw new Fault(3, w.place);
                if (w.text.equals("sleeper")) {
                    if (newSleepers.size() == 7) throw new Fault(3, w.place);
                    newSleepers.add(new int[] {t.number(1, 60), t.number(1, 9)});
                    fresh.woke.add(NONE);
                    fresh.snoozed.add(0);
                    fresh.led.add(0);
                } else if (w.text.equals("clock")) {
                    if (newLouds.size() == 6) throw new Fault(3, w.place);
                    newLouds.add(t.number(1, 30));
                    fresh.spring.add(t.number(0, 20));
                    fresh.set.add(NONE);
                    fresh.sock.add(false);
                } else if (w.text.equals("near")) {
                    int s = t.number(0, newSleepers.size() - 1);
                    int c = t.number(0, newLouds.size() - 1);
                    fresh.near.put(s * 100 + c, t.number(0, 9));
                } else {
                    fresh.socks = t.number(0, 9);
                }
                t.sign(";");
            }
        } catch (Fault f) {
            return failed(f);
        }
        sleepers = newSleepers;
        louds = newLouds;
        state = fresh;
        law = plainLaw();
        book = new HashMap<>();
        works = new ArrayList<>();
        images = new ArrayList<>();
        refused = 0;
        return sleepers.size();
    }

    public int law(int n) {
        String text = text(n, 150);
        try {
            Tokens t = new Tokens(text);
            Expression e = sum(t, 0);
            if (t.peek().kind != 'e') throw new Fault(1, t.peek().place);
            law = e;
            return 1;
        } catch (Fault f) {
            return failed(f);
        }
    }

    private Expression sum(Tokens t, int open) {
        Expression left = product(t, open);
        while (t.sees("+") || t.sees("-")) {
            boolean plus = t.take().text.equals("+");
            Expression one = left;
            Expression two = product(t, open);
            left = plus ? m -> one.value(m) + two.value(m) : m -> one.value(m) - two.value(m);
        }
        return left;
    }

    private Expression product(Tokens t, int open) {
        Expression left = unit(t, open);
        while (t.sees("*") || t.sees("/") || t.sees("%")) {
            String sign = t.take().text;
            Expression one = left;
            Expression two = unit(t, open);
            left = m -> {
                long a = one.value(m);
                long b = two.value(m);
                if (sign.equals("*")) return (int) (a * b);
                if (b == 0) return 0;
                return (int) (sign.equals("/") ? a / b : a - a / b * b);
            };
        }
        return left;
    }

    private Expression unit(Tokens t, int open) {
        Token next = t.peek();
        if (next.kind == 'n') {
            int v = t.number(0, 999);
            return m -> v;
        }
        if (t.sees("(") || t.sees("least") || t.sees("most")) {
            t.take();
            if (open + 1 == 7) throw new Fault(3, next.place);
            if (next.text.equals("(")) {
                Expression inside = sum(t, open + 1);
                t.sign(")");
                return inside;
            }
            t.sign("[");
            Expression one = sum(t, open + 1);
            t.sign(",");
            Expression two = sum(t, open + 1);
            t.sign("]");
            boolean least = next.text.equals("least");
            return m -> {
                int a = one.value(m);
                int b = two.value(m);
                return least == (a < b) ? a : b;
            };
        }
        String name = t.word("loud", "near", "depth", "sock", "hour", "day", "awake", "spring", "sleeper").text;
        return m -> m.get(name);
    }

    public int work(int n) {
        String text = text(n, 150);
        if (works.size() == 16) return -20;
        List<Step> steps;
        try {
            Tokens t = new Tokens(text);
            steps = steps(t, 0);
        } catch (Fault f) {
            return failed(f);
        }
        works.add(state.copy());
        begun = 0;
        done = 0;
        refusedNow = 0;
        runAll(steps);
        refused = refusedNow;
        return done;
    }

    private void runAll(List<Step> steps) {
        for (Step s : steps) {
            if (begun == 200) return;
            begun++;
            s.run();
        }
    }

    private List<Step> steps(Tokens t, int open) {
        List<Step> steps = new ArrayList<>();
        while (open == 0 ? t.peek().kind != 'e' : !t.sees("]")) {
            steps.add(step(t, open));
            t.sign(";");
        }
        return steps;
    }

    private Step step(Tokens t, int open) {
        Token w = t.word("set", "let", "wind", "sock", "move", "snooze", "hour", "again");
        if (w.text.equals("again")) {
            if (open == 6) throw new Fault(3, w.place);
            int times = t.number(0, 60);
            t.sign("[");
            List<Step> body = steps(t, open + 1);
            t.sign("]");
            return () -> {
                for (int i = 0; i < times; i++) runAll(body);
            };
        }
        if (w.text.equals("hour")) {
            return () -> tell(!(state.hour == 23 && state.day == 300), () -> passHour(state));
        }
        if (w.text.equals("snooze")) {
            int s = t.number(0, sleepers.size() - 1);
            return () -> tell(state.woke.get(s) != NONE, () -> {
                state.woke.set(s, NONE);
                state.snoozed.set(s, state.snoozed.get(s) + 1);
            });
        }
        int c = t.number(0, louds.size() - 1);
        switch (w.text) {
            case "set":
                int h = t.number(0, 23);
                return () -> tell(state.set.get(c) != h, () -> state.set.set(c, h));
            case "let":
                return () -> tell(state.set.get(c) != NONE, () -> state.set.set(c, NONE));
            case "wind":
                return () -> tell(state.spring.get(c) < 20, () -> wind(state, c));
            case "sock":
                return () -> tell(state.sock.get(c) || state.socks > 0, () -> sock(state, c));
            default:
                int s = t.number(0, sleepers.size() - 1);
                int by = t.number(0, 9);
                return () -> tell(state.near(s, c) != by, () -> state.near.put(s * 100 + c, by));
        }
    }

    private void tell(boolean can, Runnable change) {
        if (can) {
            done++;
            change.run();
        } else {
            refusedNow++;
        }
    }

    private static void wind(State st, int c) {
        st.spring.set(c, Math.min(20, st.spring.get(c) + 5));
    }

    private static void sock(State st, int c) {
        st.socks += st.sock.get(c) ? 1 : -1;
        st.sock.set(c, !st.sock.get(c));
    }

    private int noise(State st, int s, int c) {
        Map<String, Integer> m = new HashMap<>();
        m.put("loud", louds.get(c));
        m.put("near", st.near(s, c));
        m.put("depth", sleepers.get(s)[0]);
        m.put("sock", st.sock.get(c) ? 1 : 0);
        m.put("hour", st.hour);
        m.put("day", st.day);
        m.put("awake", Integer.bitCount(st.awake()));
        m.put("spring", st.spring.get(c));
        m.put("sleeper", s);
        return clamp(law.value(m));
    }

    private static int clamp(int v) {
        return v < 0 ? 0 : v > 99 ? 99 : v;
    }

    private int heard(State st, int s, int clocks) {
        int sum = 0;
        for (int c = 0; c < louds.size(); c++) if ((clocks & 1 << c) != 0) sum += noise(st, s, c);
        return sum;
    }

    private int wakers(State st, int clocks) {
        int bits = 0;
        for (int s = 0; s < sleepers.size(); s++) {
            if (st.woke.get(s) == NONE && heard(st, s, clocks) >= sleepers.get(s)[0]) bits |= 1 << s;
        }
        return bits;
    }

    private int ringing(State st, int hour) {
        int bits = 0;
        for (int c = 0; c < louds.size(); c++) if (st.set.get(c) == hour && st.spring.get(c) > 0) bits |= 1 << c;
        return bits;
    }

    private int passHour(State st) {
        int ring = ringing(st, st.hour);
        int woken = wakers(st, ring);
        for (int c = 0; c < louds.size(); c++) if ((ring & 1 << c) != 0) st.spring.set(c, st.spring.get(c) - 1);
        for (int s = 0; s < sleepers.size(); s++) if ((woken & 1 << s) != 0) st.woke.set(s, st.hour);
        st.hour++;
        if (st.hour == 24) {
            int first = st.first();
            if (first != NONE) st.led.set(first, st.led.get(first) + 1);
            st.hour = 0;
            st.day++;
            for (int s = 0; s < sleepers.size(); s++) st.woke.set(s, NONE);
        }
        return woken;
    }

    public int book(int n) {
        String text = text(n, 60);
        Map<Integer, Integer> lines = new HashMap<>();
        try {
            Tokens t = new Tokens(text);
            while (t.peek().kind != 'e') {
                int s = t.number(v -> v < sleepers.size() && !lines.containsKey(v));
                lines.put(s, t.number(0, 1));
                t.sign(";");
            }
        } catch (Fault f) {
            return failed(f);
        }
        book = lines;
        return book.size();
    }

    public int fault() {
        return faultPlace;
    }

    public int undo() {
        if (works.isEmpty()) return -1;
        state = works.remove(works.size() - 1);
        refused = 0;
        return works.size();
    }

    public int told(int what) {
        wrongUnless(what >= 0 && what <= 11);
        int set = 0;
        int socked = 0;
        for (int c = 0; c < louds.size(); c++) {
            if (state.set.get(c) != NONE) set |= 1 << c;
            if (state.sock.get(c)) socked |= 1 << c;
        }
        return new int[] {sleepers.size(), louds.size(), state.hour, state.day, state.awake(), state.first(), set,
            socked, state.socks, state.springs(), book.size(), refused}[what];
    }

    public int sleeper(int s, int what) {
        haveSleeper(s);
        wrongUnless(what >= 0 && what <= 4);
        return new int[] {sleepers.get(s)[0], sleepers.get(s)[1], state.woke.get(s), state.snoozed.get(s),
            state.led.get(s)}[what];
    }

    public int clock(int c, int what) {
        haveClock(c);
        wrongUnless(what >= 0 && what <= 3);
        return new int[] {louds.get(c), state.spring.get(c), state.set.get(c), state.sock.get(c) ? 1 : 0}[what];
    }

    public int near(int s, int c) {
        haveSleeper(s);
        haveClock(c);
        return state.near(s, c);
    }

    public int noise(int s, int c) {
        haveSleeper(s);
        haveClock(c);
        return noise(state, s, c);
    }

    public int would(int loud, int near, int depth, int sock, int hour, int day, int awake, int spring, int sleeper) {
        boolean fine = loud >= 1 && loud <= 30 && near >= 0 && near <= 9 && depth >= 1 && depth <= 60 && sock >= 0
            && sock <= 1 && hour >= 0 && hour <= 23 && day >= 0 && day <= 300 && awake >= 0 && awake <= 7
            && spring >= 0 && spring <= 20 && sleeper >= 0 && sleeper <= 6;
        wrongUnless(fine);
        return clamp(law.value(Map.of("loud", loud, "near", near, "depth", depth, "sock", sock, "hour", hour, "day",
            day, "awake", awake, "spring", spring, "sleeper", sleeper)));
    }

    private boolean canRing(int clocks) {
        for (int c = 0; c < louds.size(); c++) if ((clocks & 1 << c) != 0 && state.spring.get(c) == 0) return false;
        return true;
    }

    public int rung(int clocks) {
        wrongUnless(clocks >= 0 && clocks >> louds.size() == 0);
        return canRing(clocks) ? wakers(state, clocks) : NONE;
    }

    public int rings() {
        return ringing(state, state.hour);
    }

    public int ahead(int n, int what) {
        wrongUnless(n >= 0 && n <= 99 && what >= 0 && what <= 2);
        State st = state.copy();
        for (int i = 0; i < n; i++) passHour(st);
        return what == 0 ? st.awake() : what == 1 ? st.first() : st.springs();
    }

    public int wakes(int s) {
        haveSleeper(s);
        State st = state.copy();
        for (int i = 1; i <= 48; i++) if ((passHour(st) & 1 << s) != 0) return i;
        return NONE;
    }

    private int fewest(IntPredicate fits) {
        for (int many = 0; many <= louds.size(); many++) {
            for (int set = 0; set < 1 << louds.size(); set++) {
                if (Integer.bitCount(set) == many && canRing(set) && fits.test(set)) return set;
            }
        }
        return NONE;
    }

    public int crown(int s) {
        haveSleeper(s);
        return fewest(set -> {
            int woken = wakers(state, set);
            for (int i = 0; i < s; i++) if ((woken & 1 << i) != 0) return false;
            return (woken & 1 << s) != 0;
        });
    }

    public int just(int told) {
        wrongUnless(told >= 0 && told >> sleepers.size() == 0);
        return fewest(set -> wakers(state, set) == told);
    }

    public int each(int told) {
        wrongUnless(told >= 0 && told >> sleepers.size() == 0);
        return fewest(set -> {
            int woken = 0;
            for (int c = 0; c < louds.size(); c++) if ((set & 1 << c) != 0) woken |= wakers(state, 1 << c);
            return (told & ~woken) == 0;
        });
    }

    private List<Integer> sets() {
        List<Integer> sets = new ArrayList<>();
        for (int set = 0; set < 1 << louds.size(); set++) {
            if (!canRing(set)) continue;
            int woken = wakers(state, set);
            boolean right = true;
            for (int s : book.keySet()) right &= (woken >> s & 1) == book.get(s);
            if (right) sets.add(set);
        }
        return sets;
    }

    public int which(int what) {
        wrongUnless(what >= 0 && what <= 2);
        List<Integer> sets = sets();
        if (what == 0) return sets.size();
        if (what == 1) return sets.isEmpty() ? NONE : sets.get(0);
        int sure = sets.isEmpty() ? 0 : -1;
        for (int set : sets) sure &= set;
        return sure;
    }

    public int ask(int what) {
        wrongUnless(what >= 0 && what <= 1);
        List<Integer> sets = sets();
        int best = NONE;
        int left = NONE;
        for (int s = 0; s < sleepers.size(); s++) {
            if (book.containsKey(s)) continue;
            int yes = 0;
            for (int set : sets) if ((wakers(state, set) & 1 << s) != 0) yes++;
            int worst = Math.max(yes, sets.size() - yes);
            if (best == NONE || worst < left) {
                best = s;
                left = worst;
            }
        }
        return what == 0 ? best : left;
    }

    public int swing(int s) {
        haveSleeper(s);
        int all = 0;
        for (int[] one : sleepers) all += one[1];
        int many = 0;
        for (int set = 0; set < 1 << sleepers.size(); set++) {
            if ((set & 1 << s) != 0) continue;
            int sum = 0;
            for (int i = 0; i < sleepers.size(); i++) if ((set & 1 << i) != 0) sum += sleepers.get(i)[1];
            if (sum <= all / 2.0 && sum + sleepers.get(s)[1] > all / 2.0) many++;
        }
        return many;
    }

    public int lasts(int c) {
        haveClock(c);
        State st = state.copy();
        int many = 0;
        for (int i = 0; i < 48; i++) {
            if ((ringing(st, st.hour) & 1 << c) != 0) many++;
            passHour(st);
        }
        return many;
    }

    public int coup(int v, int w, int what) {
        wrongUnless(v >= 0 && v <= 99 && w >= 0 && w <= 20 && what >= 0 && what <= 2);
        int[][] have = new int[6][6];
        for (int i = 0; i < 6; i++) {
            for (int j = 0; j < 6; j++) have[i][j] = (i < j ? v : i > j ? 0 : v / 2) - w * (5 - i);
        }
        List<int[]> rests = new ArrayList<>();
        for (int i = 0; i < 6; i++) {
            for (int j = 0; j < 6; j++) {
                boolean rest = true;
                for (int k = 0; k < 6; k++) rest &= have[k][j] <= have[i][j] && have[k][i] <= have[j][i];
                if (rest) rests.add(new int[] {i, j});
            }
        }
        if (what == 0) return rests.size();
        if (rests.isEmpty()) return what == 1 ? NONE : 0;
        int i = rests.get(0)[0];
        int j = rests.get(0)[1];
        return what == 1 ? 10 * i + j : have[i][j] + have[j][i];
    }

    public long prophet(int n, int k, int q, int part) {
        wrongUnless(n >= 0 && n <= 12 && k >= 0 && k <= 13 && q >= 0 && q <= 16 && part >= 0 && part <= 1);
        long[] ways = new long[n + 2];
        ways[0] = 1;
        for (int alarm = 0; alarm < n; alarm++) {
            for (int i = alarm + 1; i >= 0; i--) ways[i] = ways[i] * (16 - q) + (i > 0 ? ways[i - 1] * q : 0);
        }
        java.math.BigInteger above = java.math.BigInteger.ZERO;
        for (int i = k; i <= n; i++) above = above.add(java.math.BigInteger.valueOf(ways[i]));
        java.math.BigInteger below = java.math.BigInteger.valueOf(16).pow(n);
        java.math.BigInteger common = above.gcd(below);
        return (part == 0 ? above : below).divide(common).longValueExact();
    }

    public int dreams(int s, int told, int n) {
        haveSleeper(s);
        wrongUnless(told >= 0 && told >> sleepers.size() == 0 && n >= 0 && n <= 999);
        if ((told & 1 << s) == 0) return 0;
        int best = 0;
        for (int bound = 0; bound <= 1000; bound++) {
            int given = 0;
            for (int i = 0; i < sleepers.size(); i++) {
                if ((told & 1 << i) != 0) given += Math.min(bound, sleepers.get(i)[0]);
            }
            if (given <= n) best = bound;
        }
        return Math.min(best, sleepers.get(s)[0]);
    }

    public int loudest(int s, int what) {
        haveSleeper(s);
        wrongUnless(what == 0 || what == 1);
        int best = NONE;
        for (int c = louds.size() - 1; c >= 0; c--) {
            if (best == NONE || noise(state, s, c) >= noise(state, s, best)) best = c;
        }
        return best == NONE ? NONE : what == 0 ? best : noise(state, s, best);
    }

    public int dead() {
        int ringable = 0;
        for (int c = 0; c < louds.size(); c++) if (state.spring.get(c) > 0) ringable |= 1 << c;
        return (1 << sleepers.size()) - 1 - (wakers(state, ringable) | state.awake());
    }

    public int votes(int what) {
        wrongUnless(what == 0 || what == 1);
        int sum = 0;
        for (int s = 0; s < sleepers.size(); s++) {
            if ((state.woke.get(s) == NONE) == (what == 1)) sum += sleepers.get(s)[1];
        }
        return sum;
    }

    public int stroke(int what) {
        wrongUnless(what == 0 || what == 1);
        int best = NONE;
        int most = 0;
        for (int h = 0; h < 24; h++) {
            int many = 0;
            for (int set : state.set) if (set == h) many++;
            if (many > most) {
                most = many;
                best = h;
            }
        }
        return best == NONE ? NONE : what == 0 ? best : most;
    }

    public int lacks(int s, int hour) {
        haveSleeper(s);
        wrongUnless(hour >= 0 && hour <= 23);
        if (state.woke.get(s) != NONE) return 0;
        return Math.max(0, sleepers.get(s)[0] - heard(state, s, ringing(state, hour)));
    }

    public int deaf(int c) {
        haveClock(c);
        return (1 << sleepers.size()) - 1 - (wakers(state, 1 << c) | state.awake());
    }

    public int idle() {
        int bits = 0;
        for (int c = 0; c < louds.size(); c++) if (state.set.get(c) == NONE || state.spring.get(c) == 0) bits |= 1 << c;
        return bits;
    }

    public int lightest(int what) {
        wrongUnless(what == 0 || what == 1);
        for (int depth = 1; depth <= 60; depth++) {
            for (int s = 0; s < sleepers.size(); s++) {
                if (state.woke.get(s) == NONE && sleepers.get(s)[0] == depth) return what == 0 ? s : depth;
            }
        }
        return NONE;
    }

    public int all(int s) {
        haveSleeper(s);
        int sum = 0;
        for (int c = 0; c < louds.size(); c++) if (state.spring.get(c) > 0) sum += noise(state, s, c);
        return sum;
    }

    public int bells() {
        int bits = 0;
        for (int h = 0; h < 24; h++) if (ringing(state, h) != 0) bits |= 1 << h;
        return bits;
    }

    public int until() {
        State st = state.copy();
        for (int i = 0; i < 24; i++) {
            if (ringing(st, st.hour) != 0) return i;
            passHour(st);
        }
        return NONE;
    }

    private int drawnSeed;

    private int drawn(int by) {
        drawnSeed = (int) ((drawnSeed & 0xffffffffL) * 1103515245L + 12345L);
        return (int) ((drawnSeed & 0x7fff0000L) / 65536 % by);
    }

    private int yearWakings;

    private State runYear(int seed, int days, int q) {
        State st = state.copy();
        for (int s = 0; s < sleepers.size(); s++) st.led.set(s, 0);
        drawnSeed = seed;
        yearWakings = 0;
        for (int d = 0; d < days; d++) {
            if (!louds.isEmpty()) {
                int c = drawn(louds.size());
                st.set.set(c, drawn(24));
                if (drawn(16) < q && (st.sock.get(c) || st.socks > 0)) sock(st, c);
                if (drawn(16) < q) wind(st, c);
            }
            for (int h = 0; h < 24; h++) yearWakings += Integer.bitCount(passHour(st));
        }
        return st;
    }

    public int year(int seed, int days, int q, int what) {
        wrongUnless(days >= 1 && days <= 30 && q >= 0 && q <= 16 && what >= 0 && what <= 3);
        State st = runYear(seed, days, q);
        int best = NONE;
        int socked = 0;
        for (int s = 0; s < sleepers.size(); s++) {
            if (st.led.get(s) > 0 && (best == NONE || st.led.get(s) > st.led.get(best))) best = s;
        }
        for (int c = 0; c < louds.size(); c++) if (st.sock.get(c)) socked |= 1 << c;
        return new int[] {yearWakings, st.springs(), best, socked}[what];
    }

    public int span(int seed, int many, int days, int q, int what, int s) {
        wrongUnless(many >= 1 && many <= 10 && days >= 1 && days <= 30 && q >= 0 && q <= 16 && what >= 0 && what <= 2
            && s >= 0 && s < sleepers.size());
        List<Integer> wakings = new ArrayList<>();
        int led = 0;
        for (int i = 0; i < many; i++) {
            State st = runYear(seed + i, days, q);
            wakings.add(yearWakings);
            if (st.led.get(s) > 0) led++;
        }
        wakings.sort(null);
        return what == 0 ? wakings.get(0) : what == 1 ? wakings.get(many - 1) : led;
    }

    private static List<State> copies(List<State> states) {
        List<State> list = new ArrayList<>();
        for (State st : states) list.add(st.copy());
        return list;
    }

    public int image() {
        if (images.size() == 3) return -1;
        images.add(new Image(state.copy(), copies(works)));
        return images.size();
    }

    public int restore() {
        if (images.isEmpty()) return -1;
        Image latest = images.remove(images.size() - 1);
        state = latest.state;
        works = latest.works;
        refused = 0;
        return images.size();
    }

    public int status(int what) {
        return what == 0 ? missing : what == 1 ? wrong : NONE;
    }

    public int count(int what) {
        return what == 0 ? images.size() : what == 1 ? tape.length() : what == 2 ? works.size() : NONE;
    }
}
