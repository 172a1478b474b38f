/** The boundary cases of promises 9 to 39: what is asked of a republic, and who can't be asked. */
public final class EdgesOfQuestionsTest {
    /** Noises are 10, 10, 20; depths 10, 20, 30. */
    private static final String STAIRS = "sleeper 10 1;sleeper 20 2;sleeper 30 3;clock 10 1;clock 10 2;clock 20 3;";

    public static void main(String[] args) throws Exception {
        Edges.runAll(EdgesOfQuestionsTest.class, Edges.promises(9, 39));
    }

    /** Nobody sleeps: all seven woke in hour 0. */
    private static AlarmRule allAwake() {
        return Checks.with("sleeper 1 9;".repeat(7) + "clock 30 20;", "set 0 0;hour;");
    }

    // 9

    private static void p09_what0To11() {
        Edges.range("told", 0, 11, (x, what) -> x.told(what));
    }

    private static void p09_ofNothingAndOfAll() {
        AlarmRule x = new AlarmRule();
        int[] none = {0, 0, 0, 0, 0, -1, 0, 0, 2, 0, 0, 0};
        for (int what = 0; what < 12; what++) Checks.due("new told " + what, none[what], x.told(what));
        AlarmRule y = Checks.with("sleeper 1 1;".repeat(7) + "clock 30 20;".repeat(6) + "socks 9;",
            "set 0 0;set 1 0;set 2 0;set 3 0;set 4 0;set 5 0;hour;wind 0;wind 1;wind 2;wind 3;wind 4;wind 5;");
        Checks.work(y, "sock 0;sock 1;sock 2;sock 3;sock 4;sock 5;let 0;set 0 0;wind 0;again 22[hour;];");
        Checks.book(y, "0 1;1 1;2 1;3 1;4 1;5 1;6 0;");
        int[] all = {7, 6, 23, 0, 127, 0, 63, 63, 3, 120, 7, 1};
        for (int what = 0; what < 12; what++) Checks.due("full told " + what, all[what], y.told(what));
    }

    private static void p09_refusedStepsOfTheLatestWork() {
        AlarmRule x = new AlarmRule();
        Checks.due("ahead of any", 0, x.told(11));
        Checks.republic(x, Edges.TRIO);
        Checks.work(x, "let 0;let 1;");
        Checks.due("two", 2, x.told(11));
        Checks.work(x, "hours;");
        Checks.due("a faulty text is no work", 2, x.told(11));
        Checks.work(x, "let 0;");
        Checks.due("the latest", 1, x.told(11));
        x.undo();
        Checks.due("behind undo()", 0, x.told(11));
        x.image();
        Checks.work(x, "let 0;");
        Checks.due("one more", 1, x.told(11));
        x.restore();
        Checks.due("behind restore()", 0, x.told(11));
        Checks.work(x, "let 0;");
        Checks.law(x, "1");
        Checks.book(x, "");
        x.image();
        Checks.due("behind others it stays", 1, x.told(11));
        Checks.republic(x, Edges.TRIO);
        Checks.due("ahead of any work in a new republic", 0, x.told(11));
    }

    // 10, 11

    private static void p10_noSuchSleeper() {
        for (int what = 0; what < 5; what++) {
            int asked = what;
            Edges.sleepers("sleeper", (x, s) -> x.sleeper(s, asked));
        }
    }

    private static void p10_what0To4() {
        Edges.range("sleeper", 0, 4, (x, what) -> x.sleeper(2, what));
    }

    private static void p10_noSuchSleeperAheadOfOthers() {
        Edges.noSuch(Edges::busy, "both wrong", x -> x.sleeper(3, 5));
        Edges.noSuch(Edges::busy, "both below", x -> x.sleeper(-1, -1));
    }

    private static void p10_noneWhileItSleeps() {
        AlarmRule x = Checks.with("sleeper 10 1;clock 30 9;");
        Checks.due("it sleeps", -1, x.sleeper(0, 2));
        Checks.work(x, "set 0 0;hour;");
        Checks.due("it woke in hour 0", 0, x.sleeper(0, 2));
        Checks.work(x, "snooze 0;");
        Checks.due("it sleeps again", -1, x.sleeper(0, 2));
        Checks.work(x, "set 0 23;again 22[hour;];");
        Checks.due("hour 23 has not gone by", -1, x.sleeper(0, 2));
        Checks.work(x, "hour;");
        Checks.due("a new day", -1, x.sleeper(0, 2));
    }

    private static void p10_countsGoOnFromDayToDay() {
        AlarmRule x = Checks.with("sleeper 10 1;clock 30 20;", "set 0 5;again 3[again 10[hour;];snooze 0;again 14[hour;];];");
        Checks.due("snoozed each day", 3, x.sleeper(0, 3));
        Checks.due("never first at an end", 0, x.sleeper(0, 4));
        Checks.work(x, "again 3[again 24[hour;];];");
        Checks.due("snoozed no more", 3, x.sleeper(0, 3));
        Checks.due("three days first", 3, x.sleeper(0, 4));
    }

    private static void p11_noSuchClock() {
        for (int what = 0; what < 4; what++) {
            int asked = what;
            Edges.clocks("clock", (x, c) -> x.clock(c, asked));
        }
    }

    private static void p11_what0To3() {
        Edges.range("clock", 0, 3, (x, what) -> x.clock(2, what));
    }

    private static void p11_noSuchClockAheadOfOthers() {
        Edges.noSuch(Edges::busy, "both wrong", x -> x.clock(3, 4));
        Edges.noSuch(Edges::busy, "both below", x -> x.clock(-1, -1));
    }

    private static void p11_noneIfItIsNotSet() {
        AlarmRule x = Checks.with("clock 30 9;");
        Checks.due("not set", -1, x.clock(0, 2));
        Checks.work(x, "set 0 0;");
        Checks.due("set for hour 0", 0, x.clock(0, 2));
        Checks.work(x, "let 0;");
        Checks.due("let", -1, x.clock(0, 2));
    }

    // 12 to 14

    private static void p12_noSuchSleeperOrClock() {
        Edges.sleepers("near of a sleeper", (x, s) -> x.near(s, 0));
        Edges.clocks("near of a clock", (x, c) -> x.near(0, c));
        Edges.noSuch(Edges::busy, "both: counted once", x -> x.near(3, 3));
        Edges.noSuch(() -> Checks.with("sleeper 1 1;"), "no clocks", x -> x.near(0, 0));
        Edges.noSuch(() -> Checks.with("clock 1 1;"), "no sleepers", x -> x.near(0, 0));
    }

    private static void p13_noSuchSleeperOrClock() {
        Edges.sleepers("noise to a sleeper", (x, s) -> x.noise(s, 0));
        Edges.clocks("noise of a clock", (x, c) -> x.noise(0, c));
        Edges.noSuch(Edges::busy, "both: counted once", x -> x.noise(3, 3));
    }

    private static void p13_spring0MakesNoiseTooAndSoDoesOneNotSet() {
        AlarmRule x = Checks.with("sleeper 10 1;clock 7 0;");
        Checks.due("were it to ring", 7, x.noise(0, 0));
    }

    private static void p14_eachNumberWithinItsBounds() {
        Edges.range("loud", 1, 30, (x, n) -> x.would(n, 0, 1, 0, 0, 0, 0, 0, 0));
        Edges.range("near", 0, 9, (x, n) -> x.would(1, n, 1, 0, 0, 0, 0, 0, 0));
        Edges.range("depth", 1, 60, (x, n) -> x.would(1, 0, n, 0, 0, 0, 0, 0, 0));
        Edges.range("sock", 0, 1, (x, n) -> x.would(1, 0, 1, n, 0, 0, 0, 0, 0));
        Edges.range("hour", 0, 23, (x, n) -> x.would(1, 0, 1, 0, n, 0, 0, 0, 0));
        Edges.range("day", 0, 300, (x, n) -> x.would(1, 0, 1, 0, 0, n, 0, 0, 0));
        Edges.range("awake", 0, 7, (x, n) -> x.would(1, 0, 1, 0, 0, 0, n, 0, 0));
        Edges.range("spring", 0, 20, (x, n) -> x.would(1, 0, 1, 0, 0, 0, 0, n, 0));
        Edges.range("sleeper", 0, 6, (x, n) -> x.would(1, 0, 1, 0, 0, 0, 0, 0, n));
    }

    private static void p14_allWrongIsCountedOnce() {
        Edges.illegal(Edges::busy, "all below", x -> x.would(0, -1, 0, -1, -1, -1, -1, -1, -1));
        Edges.illegal(Edges::busy, "all above", x -> x.would(31, 10, 61, 2, 24, 301, 8, 21, 7));
    }

    private static void p14_aSleeperThatIsNotThere() {
        AlarmRule x = new AlarmRule();
        Checks.law(x, "sleeper + 1");
        Checks.due("sleeper 6 of none", 7, x.would(1, 0, 1, 0, 0, 0, 0, 0, 6));
    }

    // 15 to 18

    private static void p15_bitsOfClocks() {
        Edges.range("rung", 0, 7, (x, bits) -> x.rung(bits));
        Edges.range(AlarmRule::new, "rung of none", 0, 0, (x, bits) -> x.rung(bits));
        Edges.allowed(Edges::full, "all six", x -> x.rung(63));
        Checks.illegal("a seventh", () -> Edges.full().rung(64));
        Edges.illegal(Edges::busy, "a bit above, and others", x -> x.rung(9));
    }

    private static void p15_noneIfOneHasNoSpring() {
        AlarmRule x = Checks.with("sleeper 10 1;clock 30 1;clock 30 0;");
        Checks.due("no clocks", 0, x.rung(0));
        Checks.due("a spring", 1, x.rung(1));
        Checks.due("no spring", -1, x.rung(2));
        Checks.due("one of both has none", -1, x.rung(3));
        Checks.due("none is no refused call", 0, x.status(1));
    }

    private static void p15_depthOrMore() {
        AlarmRule x = Checks.with(STAIRS);
        int[] due = {0, 1, 1, 3, 3, 7, 7, 7};
        for (int bits = 0; bits < 8; bits++) Checks.due("rung " + bits, due[bits], x.rung(bits));
    }

    private static void p16_ofThisHourWithASpring() {
        AlarmRule x = Checks.with("clock 1 1;clock 1 0;clock 1 1;");
        Checks.due("none set", 0, x.rings());
        Checks.work(x, "set 0 0;set 1 0;set 2 1;");
        Checks.due("hour 0", 1, x.rings());
        Checks.work(x, "hour;");
        Checks.due("hour 1", 4, x.rings());
        Checks.work(x, "set 0 23;set 1 23;set 2 23;wind 0;wind 1;again 22[hour;];");
        Checks.due("hour 23", 7, x.rings());
        Checks.due("a new object", 0, new AlarmRule().rings());
    }

    private static void p17_n0To99() {
        for (int what = 0; what < 3; what++) {
            int asked = what;
            Edges.range("ahead", 0, 99, (x, n) -> x.ahead(n, asked));
        }
    }

    private static void p17_what0To2() {
        Edges.range("ahead", 0, 2, (x, what) -> x.ahead(99, what));
        Edges.illegal(Edges::busy, "both wrong", x -> x.ahead(100, 3));
    }

    private static void p17_in0HoursIsNow() {
        AlarmRule x = Checks.with(STAIRS, "set 2 0;hour;");
        Checks.due("awake", x.told(4), x.ahead(0, 0));
        Checks.due("first", x.told(5), x.ahead(0, 1));
        Checks.due("springs", x.told(9), x.ahead(0, 2));
        Checks.due("nobody first", -1, Checks.with(STAIRS).ahead(0, 1));
    }

    private static void p17_asWorkedHours() {
        // Each hour ahead is what so many hours done come to.
        AlarmRule x = Checks.with(STAIRS, "set 0 4;set 1 23;set 2 0;");
        int[] awake = new int[100];
        int[] springs = new int[100];
        for (int n = 0; n < 100; n++) {
            awake[n] = x.ahead(n, 0);
            springs[n] = x.ahead(n, 2);
        }
        for (int n = 0; n < 14; n++) {
            Checks.due("awake in " + 7 * n, awake[7 * n], x.told(4));
            Checks.due("springs in " + 7 * n, springs[7 * n], x.told(9));
            Checks.work(x, "again 7[hour;];");
        }
    }

    private static void p18_noSuchSleeper() {
        Edges.sleepers("wakes", (x, s) -> x.wakes(s));
    }

    private static void p18_from1To48() {
        AlarmRule x = Checks.with("sleeper 1 1;clock 1 20;", "set 0 0;");
        Checks.due("in this hour", 1, x.wakes(0));
        Checks.law(x, "day");
        Checks.due("tomorrow", 25, x.wakes(0));
        Checks.work(x, "set 0 23;");
        Checks.due("the 48th", 48, x.wakes(0));
        Checks.law(x, "day / 2");
        Checks.due("the 72nd is too far", -1, x.wakes(0));
        Checks.work(x, "let 0;");
        Checks.law(x, "99");
        Checks.due("never", -1, x.wakes(0));
    }

    private static void p18_the49thIsNone() {
        AlarmRule x = Checks.with("sleeper 1 1;clock 1 20;", "set 0 0;");
        Checks.law(x, "day / 2");
        Checks.due("the 49th", -1, x.wakes(0));
        Checks.work(x, "hour;");
        Checks.due("an hour later it is the 48th", 48, x.wakes(0));
    }

    private static void p18_ofOneAwakeTheNextTime() {
        AlarmRule x = Checks.with("sleeper 1 1;clock 1 20;", "set 0 0;hour;");
        Checks.due("tomorrow", 24, x.wakes(0));
        Checks.work(x, "set 0 1;");
        Checks.due("not again today", 25, x.wakes(0));
        Checks.work(x, "snooze 0;");
        Checks.due("behind a snooze it is", 1, x.wakes(0));
    }

    // 19 to 23

    private static void p19_noSuchSleeper() {
        Edges.sleepers("crown", (x, s) -> x.crown(s));
    }

    private static void p19_theFirstAndTheLastOfSeven() {
        AlarmRule x = Checks.with("sleeper 7 1;sleeper 6 1;sleeper 5 1;sleeper 4 1;sleeper 3 1;sleeper 2 1;sleeper 1 1;"
            + "clock 1 1;clock 1 1;clock 1 1;clock 1 1;clock 1 1;clock 1 1;");
        int[] due = {-1, 63, 31, 15, 7, 3, 1};
        for (int s = 0; s < 7; s++) Checks.due("crown " + s, due[s], x.crown(s));
    }

    private static void p20_bitsOfSleepers() {
        Edges.range("just", 0, 7, (x, bits) -> x.just(bits));
        Edges.range(AlarmRule::new, "just of none", 0, 0, (x, bits) -> x.just(bits));
        Edges.allowed(Edges::full, "all seven", x -> x.just(127));
        Checks.illegal("an eighth", () -> Edges.full().just(128));
        Edges.illegal(Edges::busy, "a bit above, and others", x -> x.just(9));
    }

    private static void p20_0OfNone() {
        Checks.due("a new object", 0, new AlarmRule().just(0));
        Checks.due("a full one", 0, Edges.full().just(0));
        Checks.due("all awake", 0, allAwake().just(0));
        Checks.due("one awake", -1, allAwake().just(1));
    }

    private static void p21_bitsOfSleepers() {
        Edges.range("each", 0, 7, (x, bits) -> x.each(bits));
        Edges.range(AlarmRule::new, "each of none", 0, 0, (x, bits) -> x.each(bits));
        Edges.allowed(Edges::full, "all seven", x -> x.each(127));
        Checks.illegal("an eighth", () -> Edges.full().each(128));
        Edges.illegal(Edges::busy, "a bit above, and others", x -> x.each(9));
    }

    private static void p21_0OfNone() {
        Checks.due("a new object", 0, new AlarmRule().each(0));
        Checks.due("a full one", 0, Edges.full().each(0));
        Checks.due("all awake", 0, allAwake().each(0));
        Checks.due("one awake", -1, allAwake().each(1));
    }

    private static void p21_sixClocksForSix() {
        AlarmRule x = Checks.with("sleeper 27 1;".repeat(6) + "clock 1 1;".repeat(6)
            + "near 0 0 9;near 1 1 9;near 2 2 9;near 3 3 9;near 4 4 9;near 5 5 9;");
        Checks.due("all six", 63, x.each(63));
        Checks.due("but one", 62, x.each(62));
    }

    private static void p22_what0To2() {
        Edges.range("which", 0, 2, (x, what) -> x.which(what));
    }

    private static void p22_noneAnd0Without() {
        AlarmRule x = Checks.with("sleeper 60 1;clock 1 1;");
        Checks.book(x, "0 1;");
        Checks.due("no sets", 0, x.which(0));
        Checks.due("no first", -1, x.which(1));
        Checks.due("0 without", 0, x.which(2));
    }

    private static void p22_allSets() {
        AlarmRule x = Checks.with(Edges.FULL);
        Checks.due("64", 64, x.which(0));
        Checks.due("of no clocks one", 1, new AlarmRule().which(0));
        Checks.book(x, "4 1;5 1;");
        int many = 0;
        int sure = 63;
        int first = -1;
        for (int set = 0; set < 64; set++) {
            int heard = 0;
            for (int c = 0; c < 6; c++) heard += (set >> c & 1) * 5 * (c + 1);
            if (heard >= 60) {
                many++;
                sure &= set;
                first = first < 0 ? set : first;
            }
        }
        Checks.due("how many", many, x.which(0));
        Checks.due("the first", first, x.which(1));
        Checks.due("sure", sure, x.which(2));
    }

    private static void p22_ofAnAwakeOneOnlyDidNotIsRight() {
        AlarmRule x = Checks.with("sleeper 10 1;clock 10 5;", "set 0 0;hour;");
        Checks.book(x, "0 1;");
        Checks.due("woke", 0, x.which(0));
        Checks.book(x, "0 0;");
        Checks.due("did not", 2, x.which(0));
    }

    private static void p23_what0And1() {
        Edges.range("ask", 0, 1, (x, what) -> x.ask(what));
    }

    private static void p23_noneBoth() {
        AlarmRule x = Checks.with("sleeper 10 1;clock 10 1;");
        Checks.book(x, "0 1;");
        for (int what = 0; what < 2; what++) {
            Checks.due("all are in lines " + what, -1, x.ask(what));
            Checks.due("there are none " + what, -1, new AlarmRule().ask(what));
            Checks.due("there are clocks alone " + what, -1, Checks.with("clock 1 1;").ask(what));
        }
        Checks.book(x, "");
        Checks.due("no lines: whom", 0, x.ask(0));
        Checks.due("no lines: left", 1, x.ask(1));
    }

    private static void p23_theLastOfSeven() {
        AlarmRule x = Edges.full();
        Checks.book(x, "0 1;1 1;2 1;3 1;4 1;5 1;");
        Checks.due("whom", 6, x.ask(0));
        Checks.due("all that are left", x.which(0), x.ask(1));
    }

    // 24 to 28

    private static void p24_noSuchSleeper() {
        Edges.sleepers("swing", (x, s) -> x.swing(s));
    }

    private static void p24_ofAllOthers() {
        AlarmRule x = Checks.with("sleeper 1 9;sleeper 1 1;sleeper 1 1;sleeper 1 1;sleeper 1 1;sleeper 1 1;sleeper 1 1;");
        Checks.due("9 of 15: each set", 64, x.swing(0));
        Checks.due("1 of 15: none", 0, x.swing(6));
        // 12 in all: 6 are not more than half, 7 are.
        AlarmRule y = Checks.with("sleeper 1 6;sleeper 1 5;sleeper 1 1;");
        Checks.due("6 turns 5, 1 and both", 3, y.swing(0));
        Checks.due("5 turns 6", 1, y.swing(1));
        Checks.due("1 turns 6", 1, y.swing(2));
    }

    private static void p25_noSuchClock() {
        Edges.clocks("lasts", (x, c) -> x.lasts(c));
    }

    private static void p25_thisHourTheFirst() {
        AlarmRule x = Checks.with("clock 1 20;", "set 0 0;");
        Checks.due("hours 0 and 24", 2, x.lasts(0));
        Checks.work(x, "hour;");
        Checks.due("hours 24 and 48", 2, x.lasts(0));
        Checks.work(x, "again 22[hour;];set 0 23;");
        Checks.due("in hour 23", 2, x.lasts(0));
    }

    private static void p26_v0To99() {
        for (int what = 0; what < 3; what++) {
            int asked = what;
            Edges.range("v", 0, 99, (x, v) -> x.coup(v, 0, asked));
        }
    }

    private static void p26_w0To20() {
        for (int what = 0; what < 3; what++) {
            int asked = what;
            Edges.range("w", 0, 20, (x, w) -> x.coup(0, w, asked));
        }
    }

    private static void p26_what0To2() {
        Edges.range("what", 0, 2, (x, what) -> x.coup(99, 20, what));
    }

    private static void p26_theLeastAndTheMost() {
        AlarmRule x = new AlarmRule();
        int[][] rows = {{0, 0, 36, 0, 0}, {99, 0, 1, 0, 98}, {0, 20, 1, 55, 0}, {99, 20, 0, -1, 0}};
        for (int[] r : rows) {
            for (int what = 0; what < 3; what++) Checks.due("coup " + r[0], r[2 + what], x.coup(r[0], r[1], what));
        }
    }

    private static void p27_n0To12() {
        Edges.range("n", 0, 12, (x, n) -> x.prophet(n, 0, 0, 0));
    }

    private static void p27_k0To13() {
        Edges.range("k", 0, 13, (x, k) -> x.prophet(0, k, 0, 0));
    }

    private static void p27_q0To16() {
        Edges.range("q", 0, 16, (x, q) -> x.prophet(0, 0, q, 1));
    }

    private static void p27_part0And1() {
        Edges.range("part", 0, 1, (x, part) -> x.prophet(12, 6, 8, part));
    }

    private static void prophetIs(int n, int k, int q, long above, long below) {
        AlarmRule x = new AlarmRule();
        Checks.due("above " + n + " " + k + " " + q, above, x.prophet(n, k, q, 0));
        Checks.due("below " + n + " " + k + " " + q, below, x.prophet(n, k, q, 1));
    }

    private static void p27_never() {
        prophetIs(0, 1, 16, 0, 1);
        prophetIs(12, 13, 16, 0, 1);
        prophetIs(12, 1, 0, 0, 1);
        prophetIs(7, 13, 8, 0, 1);
    }

    private static void p27_always() {
        prophetIs(0, 0, 0, 1, 1);
        prophetIs(12, 0, 0, 1, 1);
        prophetIs(12, 12, 16, 1, 1);
        prophetIs(12, 0, 7, 1, 1);
    }

    private static void p27_inLeastTerms() {
        prophetIs(1, 1, 8, 1, 2);
        prophetIs(1, 1, 1, 1, 16);
        prophetIs(1, 1, 2, 1, 8);
        prophetIs(12, 12, 8, 1, 4096);
        prophetIs(12, 12, 1, 1, 1L << 48);
        prophetIs(12, 12, 15, 129746337890625L, 1L << 48);
        prophetIs(12, 1, 1, (1L << 48) - 129746337890625L, 1L << 48);
    }

    private static void p28_noSuchSleeper() {
        Edges.sleepers("dreams", (x, s) -> x.dreams(s, 1, 50));
    }

    private static void p28_noSuchSleeperAheadOfOthers() {
        Edges.noSuch(Edges::busy, "all wrong", x -> x.dreams(3, 8, 1000));
        Edges.noSuch(Edges::busy, "all below", x -> x.dreams(-1, -1, -1));
    }

    private static void p28_bitsOfSleepers() {
        Edges.range("among", 0, 7, (x, bits) -> x.dreams(2, bits, 50));
        Edges.allowed(Edges::full, "all seven", x -> x.dreams(6, 127, 50));
        Checks.illegal("an eighth", () -> Edges.full().dreams(6, 128, 50));
    }

    private static void p28_n0To999() {
        Edges.range("n", 0, 999, (x, n) -> x.dreams(2, 7, n));
        Edges.illegal(Edges::busy, "both wrong", x -> x.dreams(2, 8, 1000));
    }

    private static void p28_0IfItIsNoneOfThem() {
        AlarmRule x = Edges.full();
        for (int s = 0; s < 7; s++) {
            Checks.due("not told " + s, 0, x.dreams(s, 127 & ~(1 << s), 999));
            Checks.due("nobody told " + s, 0, x.dreams(s, 0, 999));
            Checks.due("told alone " + s, x.sleeper(s, 0), x.dreams(s, 1 << s, 999));
        }
    }

    private static void p28_sevenOf60() {
        AlarmRule x = Checks.with("sleeper 60 1;".repeat(7));
        int[][] rows = {{0, 0}, {6, 0}, {7, 1}, {13, 1}, {14, 2}, {419, 59}, {420, 60}, {421, 60}, {999, 60}};
        for (int[] row : rows) Checks.due("of " + row[0], row[1], x.dreams(6, 127, row[0]));
    }

    // 29 to 33

    private static void p29_noSuchSleeper() {
        Edges.sleepers("loudest", (x, s) -> x.loudest(s, 0));
        Edges.sleepers("so loud", (x, s) -> x.loudest(s, 1));
        Edges.noSuch(Edges::busy, "both wrong", x -> x.loudest(3, 2));
    }

    private static void p29_what0And1() {
        Edges.range("loudest", 0, 1, (x, what) -> x.loudest(2, what));
    }

    private static void p29_ofAlikeOnesTheFirst() {
        AlarmRule x = Checks.with("sleeper 1 1;clock 5 0;clock 7 0;clock 7 9;");
        Checks.due("the first of two", 1, x.loudest(0, 0));
        Checks.due("so loud", 7, x.loudest(0, 1));
        Checks.law(x, "0-5");
        Checks.due("all 0: the first", 0, x.loudest(0, 0));
        Checks.due("as loud as 0", 0, x.loudest(0, 1));
    }

    private static void p29_noneBothWithoutClocks() {
        AlarmRule x = Checks.with("sleeper 1 1;");
        Checks.due("no clock", -1, x.loudest(0, 0));
        Checks.due("no noise", -1, x.loudest(0, 1));
    }

    private static void p30_allThatHaveASpring() {
        AlarmRule x = Checks.with("sleeper 29 1;sleeper 30 1;sleeper 31 1;clock 10 1;clock 20 1;clock 30 0;");
        Checks.due("31 of 30", 4, x.dead());
        Checks.work(x, "wind 2;");
        Checks.due("31 of 60", 0, x.dead());
    }

    private static void p30_awakeOnesAreNot() {
        AlarmRule x = Checks.with("sleeper 5 1;sleeper 60 1;clock 5 1;", "set 0 0;hour;");
        Checks.due("no spring is left", 2, x.dead());
        Checks.due("nobody", 0, new AlarmRule().dead());
        Checks.due("no clocks", 3, Checks.with("sleeper 1 1;sleeper 1 1;").dead());
        Checks.due("all awake", 0, allAwake().dead());
    }

    private static void p31_what0And1() {
        Edges.range("votes", 0, 1, (x, what) -> x.votes(what));
    }

    private static void p31_ofNobodyAndOfAll() {
        Checks.due("a new object: awake", 0, new AlarmRule().votes(0));
        Checks.due("a new object: asleep", 0, new AlarmRule().votes(1));
        Checks.due("all awake: awake", 63, allAwake().votes(0));
        Checks.due("all awake: asleep", 0, allAwake().votes(1));
        Checks.due("all asleep: awake", 0, Edges.full().votes(0));
        Checks.due("all asleep: asleep", 28, Edges.full().votes(1));
    }

    private static void p32_what0And1() {
        Edges.range("stroke", 0, 1, (x, what) -> x.stroke(what));
    }

    private static void p32_hours0And23() {
        AlarmRule x = Checks.with("clock 1 0;".repeat(6), "set 5 23;");
        Checks.due("hour 23", 23, x.stroke(0));
        Checks.due("one", 1, x.stroke(1));
        Checks.work(x, "set 0 0;");
        Checks.due("of alike ones the least", 0, x.stroke(0));
        Checks.work(x, "set 1 23;");
        Checks.due("two are more than one", 23, x.stroke(0));
        Checks.due("two", 2, x.stroke(1));
        Checks.work(x, "set 1 0;set 2 0;set 3 0;set 4 0;set 5 0;");
        Checks.due("all six", 6, x.stroke(1));
    }

    private static void p32_noneBoth() {
        AlarmRule x = Checks.with("clock 1 1;");
        for (int what = 0; what < 2; what++) {
            Checks.due("none is set " + what, -1, x.stroke(what));
            Checks.due("no clocks " + what, -1, new AlarmRule().stroke(what));
        }
    }

    private static void p33_noSuchSleeper() {
        Edges.sleepers("lacks", (x, s) -> x.lacks(s, 9));
        Edges.noSuch(Edges::busy, "both wrong", x -> x.lacks(3, 24));
    }

    private static void p33_hour0To23() {
        Edges.range("lacks", 0, 23, (x, hour) -> x.lacks(0, hour));
    }

    private static void p33_0IfItWouldWakeOrIsAwake() {
        AlarmRule x = Checks.with("sleeper 9 1;sleeper 10 1;sleeper 11 1;clock 10 1;clock 20 0;", "set 0 23;set 1 23;");
        Checks.due("9 of 10", 0, x.lacks(0, 23));
        Checks.due("10 of 10", 0, x.lacks(1, 23));
        Checks.due("11 of 10", 1, x.lacks(2, 23));
        Checks.due("all of it", 11, x.lacks(2, 22));
        Checks.work(x, "set 0 0;hour;");
        Checks.due("awake", 0, x.lacks(1, 22));
        Checks.due("asleep, no spring is left", 11, x.lacks(2, 0));
    }

    // 34 to 39

    private static void p34_noSuchClock() {
        Edges.clocks("deaf", (x, c) -> x.deaf(c));
    }

    private static void p34_withASpringOrNone() {
        AlarmRule x = Checks.with("sleeper 9 1;sleeper 10 1;sleeper 11 1;clock 10 1;clock 10 0;");
        Checks.due("with a spring", 4, x.deaf(0));
        Checks.due("with none", 4, x.deaf(1));
        Checks.work(x, "set 0 0;hour;");
        Checks.due("awake ones are not", 4, x.deaf(1));
        Checks.due("all awake", 0, allAwake().deaf(0));
    }

    private static void p35_notSetOrNoSpring() {
        AlarmRule x = Checks.with("clock 1 1;clock 1 1;clock 1 0;clock 1 0;", "set 0 0;set 2 0;");
        Checks.due("set and a spring is not idle", 14, x.idle());
        Checks.due("no clocks", 0, new AlarmRule().idle());
        Checks.due("all six", 63, Checks.with(Edges.FULL).idle());
        Checks.work(x, "hour;");
        Checks.due("the spring is spent", 15, x.idle());
    }

    private static void p36_what0And1() {
        Edges.range("lightest", 0, 1, (x, what) -> x.lightest(what));
    }

    private static void p36_ofAlikeOnesTheFirst() {
        AlarmRule x = Checks.with("sleeper 9 1;sleeper 5 1;sleeper 5 1;sleeper 60 1;");
        Checks.due("the first of two", 1, x.lightest(0));
        Checks.due("its depth", 5, x.lightest(1));
        Checks.due("the very first", 0, Checks.with("sleeper 4 1;sleeper 5 1;sleeper 4 1;").lightest(0));
        Checks.due("the last of seven", 6, Edges.full().lightest(0));
        Checks.due("its depth", 1, Edges.full().lightest(1));
    }

    private static void p36_noneBothIfNobodySleeps() {
        for (int what = 0; what < 2; what++) {
            Checks.due("all awake " + what, -1, allAwake().lightest(what));
            Checks.due("no sleepers " + what, -1, new AlarmRule().lightest(what));
        }
    }

    private static void p37_noSuchSleeper() {
        Edges.sleepers("all", (x, s) -> x.all(s));
    }

    private static void p37_allThatHaveASpring() {
        AlarmRule x = Checks.with("sleeper 9 1;clock 10 1;clock 20 0;clock 30 1;", "set 0 0;");
        Checks.due("two of three", 40, x.all(0));
        Checks.work(x, "hour;");
        Checks.due("awake, one spring is spent", 30, x.all(0));
        Checks.due("no clocks", 0, Checks.with("sleeper 1 1;").all(0));
        AlarmRule y = Checks.with(Edges.FULL);
        Checks.law(y, "999");
        Checks.due("six of 99", 594, y.all(6));
    }

    private static void p38_hours0To23() {
        AlarmRule x = Checks.with("clock 1 1;clock 1 1;clock 1 0;", "set 0 0;set 1 23;set 2 5;");
        Checks.due("0 and 23, not 5", 1 | 1 << 23, x.bells());
        Checks.work(x, "hour;");
        Checks.due("its spring is spent", 1 << 23, x.bells());
        Checks.work(x, "let 1;");
        Checks.due("none", 0, x.bells());
        Checks.due("no clocks", 0, new AlarmRule().bells());
    }

    private static void p39_from0To23() {
        AlarmRule x = Checks.with("clock 1 20;", "set 0 0;");
        Checks.due("in this hour", 0, x.until());
        Checks.work(x, "set 0 23;");
        Checks.due("in 23", 23, x.until());
        Checks.work(x, "again 23[hour;];");
        Checks.due("in hour 23", 0, x.until());
        Checks.work(x, "set 0 22;");
        Checks.due("over the end of the day", 23, x.until());
        Checks.work(x, "set 0 0;");
        Checks.due("in the next", 1, x.until());
    }

    private static void p39_noneWithoutASpringOrSet() {
        AlarmRule x = Checks.with("clock 1 1;clock 1 0;", "set 1 0;");
        Checks.due("no spring", -1, x.until());
        Checks.work(x, "set 0 0;hour;");
        Checks.due("spent", -1, x.until());
        Checks.work(x, "wind 1;let 1;");
        Checks.due("not set", -1, x.until());
        Checks.due("no clocks", -1, new AlarmRule().until());
    }
}
