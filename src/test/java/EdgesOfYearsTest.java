/** The boundary cases of promises 40 to 45: years, spans, images, and what is counted. */
public final class EdgesOfYearsTest {
    public static void main(String[] args) throws Exception {
        Edges.runAll(EdgesOfYearsTest.class, Edges.promises(40, 45));
    }

    // 40

    private static void p40_days1To30() {
        for (int what = 0; what < 4; what++) {
            int asked = what;
            Edges.range("days", 1, 30, (x, days) -> x.year(1, days, 8, asked));
        }
    }

    private static void p40_q0To16() {
        Edges.range("q", 0, 16, (x, q) -> x.year(1, 2, q, 0));
    }

    private static void p40_what0To3() {
        Edges.range("what", 0, 3, (x, what) -> x.year(1, 2, 8, what));
        Edges.illegal(Edges::busy, "all wrong", x -> x.year(1, 0, 17, 4));
    }

    private static void p40_anySeed() {
        for (int seed : new int[] {Integer.MIN_VALUE, -1, 0, 1, Integer.MAX_VALUE}) {
            for (int what = 0; what < 4; what++) {
                int asked = what;
                Edges.allowed(Edges::busy, "seed " + seed, x -> x.year(seed, 30, 16, asked));
            }
        }
    }

    private static void p40_withoutSleepersOrClocks() {
        AlarmRule x = new AlarmRule();
        int[] due = {0, 0, -1, 0};
        for (int what = 0; what < 4; what++) Checks.due("neither " + what, due[what], x.year(1, 30, 16, what));
        AlarmRule y = Checks.with("clock 1 20;");
        Checks.due("clocks alone: no waking", 0, y.year(1, 5, 0, 0));
        Checks.due("clocks alone: they ring", 15, y.year(1, 5, 0, 1));
        Checks.due("clocks alone: nobody first", -1, y.year(1, 5, 0, 2));
    }

    private static void p40_noneIfNobodyWasFirst() {
        AlarmRule x = Checks.with("sleeper 60 1;sleeper 60 1;clock 1 20;");
        Checks.due("too deep", -1, x.year(1, 30, 0, 2));
        Checks.due("no waking", 0, x.year(1, 30, 0, 0));
    }

    private static void p40_ofAlikeOnesTheFirst() {
        AlarmRule x = Checks.with("sleeper 60 1;sleeper 1 1;sleeper 1 1;clock 1 20;");
        Checks.due("each day both wake, the first leads", 1, x.year(1, 10, 0, 2));
        Checks.due("twenty wakings", 20, x.year(1, 10, 0, 0));
        // Of two days each leads one: hour even wakes 0, odd wakes 1.
        AlarmRule y = Checks.with("sleeper 1 1;sleeper 1 1;clock 1 20;");
        Checks.law(y, "(hour + sleeper + 1) % 2");
        for (int seed = 0; seed < 20; seed++) {
            int zero = y.span(seed, 1, 2, 0, 2, 0);
            int one = y.span(seed, 1, 2, 0, 2, 1);
            Checks.due("seed " + seed, zero == 1 ? 0 : 1, y.year(seed, 2, 0, 2));
            Checks.due("somebody was first by " + seed, 1, zero + one > 0 ? 1 : 0);
        }
    }

    private static void p40_theLastSleeper() {
        AlarmRule x = Checks.with("sleeper 60 1;".repeat(6) + "sleeper 1 1;clock 1 20;");
        Checks.due("who was first", 6, x.year(1, 10, 0, 2));
        Checks.due("by a span", 1, x.span(1, 1, 10, 0, 2, 6));
    }

    private static void p40_onlyItsOwnDaysAndWakings() {
        AlarmRule x = Checks.with("sleeper 1 1;sleeper 2 1;clock 1 2;clock 2 20;",
            "set 0 0;again 48[hour;];");
        Checks.due("0 was first twice ahead of it", 2, x.sleeper(0, 4));
        Checks.law(x, "sleeper * 99");
        Checks.due("in the year it is 1", 1, x.year(1, 20, 0, 2));
        Checks.due("nothing stays changed", 2, x.sleeper(0, 4));
        Checks.due("nor the other", 0, x.sleeper(1, 4));
    }

    // 41

    private static void p41_many1To10() {
        for (int what = 0; what < 3; what++) {
            int asked = what;
            Edges.range("many", 1, 10, (x, many) -> x.span(1, many, 3, 8, asked, 0));
        }
    }

    private static void p41_days1To30() {
        Edges.range("days", 1, 30, (x, days) -> x.span(1, 2, days, 8, 0, 0));
    }

    private static void p41_q0To16() {
        Edges.range("q", 0, 16, (x, q) -> x.span(1, 2, 2, q, 1, 0));
    }

    private static void p41_what0To2() {
        Edges.range("what", 0, 2, (x, what) -> x.span(1, 2, 2, 8, what, 0));
    }

    private static void p41_noSuchSleeperIsIllegalForAll() {
        for (int what = 0; what < 3; what++) {
            int asked = what;
            Edges.range("sleeper", 0, 2, (x, s) -> x.span(1, 2, 2, 8, asked, s));
            Edges.allowed(Edges::full, "sleeper 6", x -> x.span(1, 2, 2, 8, asked, 6));
            Checks.illegal("sleeper 7", () -> Edges.full().span(1, 2, 2, 8, asked, 7));
            Edges.illegal(AlarmRule::new, "no sleepers", x -> x.span(1, 2, 2, 8, asked, 0));
        }
        Edges.illegal(Edges::busy, "all wrong", x -> x.span(1, 0, 0, 17, 3, 3));
    }

    private static void p41_seedAndTheNextOnes() {
        AlarmRule x = Checks.with("sleeper 12 1;sleeper 20 1;clock 1 20;clock 5 3;");
        Checks.law(x, "hour + loud - sock * 3");
        for (int seed : new int[] {0, -5, Integer.MAX_VALUE - 4}) {
            int fewest = Integer.MAX_VALUE;
            int most = -1;
            for (int i = 0; i < 10; i++) {
                int wakings = x.year(seed + i, 6, 8, 0);
                fewest = Math.min(fewest, wakings);
                most = Math.max(most, wakings);
            }
            Checks.due("fewest from " + seed, fewest, x.span(seed, 10, 6, 8, 0, 0));
            Checks.due("most from " + seed, most, x.span(seed, 10, 6, 8, 1, 1));
            Checks.due("of one the fewest", x.year(seed, 6, 8, 0), x.span(seed, 1, 6, 8, 0, 0));
            Checks.due("of one the most", x.year(seed, 6, 8, 0), x.span(seed, 1, 6, 8, 1, 0));
        }
    }

    private static void p41_byHowManyNotHowOften() {
        AlarmRule x = Checks.with("sleeper 1 1;sleeper 60 1;clock 1 20;");
        Checks.due("by each of ten, though on many days", 10, x.span(1, 10, 10, 0, 2, 0));
        Checks.due("by none", 0, x.span(1, 10, 10, 0, 2, 1));
        AlarmRule y = Checks.with("sleeper 1 1;clock 1 1;", "set 0 0;again 24[hour;];");
        Checks.due("ahead of it is not in it", 0, y.span(1, 10, 10, 0, 2, 0));
    }

    // 42, 43

    private static void p42_threeAndNoMore() {
        AlarmRule x = Checks.with(Edges.TRIO);
        for (int i = 1; i <= 3; i++) Checks.due("image " + i, i, x.image());
        Checks.due("the fourth", -1, x.image());
        Checks.due("three", 3, x.count(0));
        x.restore();
        Checks.due("there is room", 3, x.image());
        Checks.due("and no more", -1, x.image());
    }

    private static AlarmRule withThreeImages() {
        AlarmRule x = Edges.busy();
        x.image();
        return x;
    }

    private static void p42_theFourthDoesNothing() {
        Edges.doesNothing(EdgesOfYearsTest::withThreeImages, "a fourth", -1, AlarmRule::image);
    }

    private static void p42_anImageChangesNothingElse() {
        AlarmRule twin = Edges.busy();
        AlarmRule x = Edges.busy();
        x.image();
        Checks.due("told 11 stays", twin.told(11), x.told(11));
        x.restore();
        Edges.same("as without it", twin, x);
    }

    private static void p42_ofANewObject() {
        AlarmRule x = new AlarmRule();
        Checks.due("of nothing", 1, x.image());
        Checks.work(x, "hour;");
        Checks.due("back", 0, x.restore());
        Edges.same("nothing", new AlarmRule(), x);
    }

    private static void p43_noneIsThere() {
        Edges.doesNothing(AlarmRule::new, "a new object", -1, AlarmRule::restore);
        Edges.doesNothing(() -> Checks.with(Edges.TRIO, "hour;let 0;"), "no image", -1, AlarmRule::restore);
        Edges.doesNothing(() -> {
            AlarmRule x = Edges.busy();
            x.restore();
            x.restore();
            return x;
        }, "all are gone", -1, AlarmRule::restore);
    }

    private static void p43_howManyAreLeft() {
        AlarmRule x = withThreeImages();
        for (int left = 2; left >= 0; left--) {
            Checks.due("left", left, x.restore());
            Checks.due("counted", left, x.count(0));
        }
        Checks.due("none", -1, x.restore());
    }

    private static void p43_theLatestOne() {
        AlarmRule x = Checks.with(Edges.TRIO);
        for (int i = 0; i < 3; i++) {
            x.image();
            Checks.work(x, "hour;");
        }
        for (int hour = 2; hour >= 0; hour--) {
            x.restore();
            Checks.due("its hour", hour, x.told(2));
            Checks.due("its works", hour, x.count(2));
        }
    }

    private static void p43_worksThatCanBeUndoneAreAsInIt() {
        AlarmRule x = Checks.with(Edges.TRIO);
        for (int i = 0; i < 16; i++) Checks.work(x, "hour;");
        x.image();
        for (int i = 0; i < 16; i++) x.undo();
        for (int i = 0; i < 8; i++) Checks.work(x, "set 0 " + i + ";hour;hour;");
        x.restore();
        for (int left = 15; left >= 0; left--) {
            Checks.due("left", left, x.undo());
            Checks.due("the hour", left, x.told(2));
            Checks.due("not set", -1, x.clock(0, 2));
        }
    }

    private static void p43_whatNoWorkChangesStays() {
        AlarmRule x = Checks.with(Edges.TRIO);
        x.image();
        Checks.law(x, "42");
        Checks.book(x, "0 1;");
        Checks.feed(x, "hour;");
        Checks.illegal("wrong", () -> x.told(12));
        x.restore();
        Checks.due("the law", 42, x.noise(0, 0));
        Checks.due("the book", 1, x.told(10));
        Checks.due("the tape", 20, x.count(1));
        Checks.due("status", 1, x.status(1));
    }

    // 44, 45

    private static void p44_noneForOthers() {
        for (int what : new int[] {-1, 2, Integer.MIN_VALUE, Integer.MAX_VALUE}) {
            Edges.doesNothing(Edges::busy, "status " + what, -1, x -> x.status(what));
        }
    }

    private static void p44_eachByItsReason() {
        AlarmRule x = Edges.busy();
        for (int i = 1; i <= 40; i++) {
            Checks.noSuch("missing", () -> x.near(7, 7));
            Checks.due("status 0", i, x.status(0));
            Checks.due("status 1", i - 1, x.status(1));
            Checks.illegal("wrong", () -> x.told(12));
            Checks.due("status 1 too", i, x.status(1));
        }
    }

    private static void p44_answersAreNotRefusals() {
        AlarmRule x = withThreeImages();
        x.image();
        Checks.work(x, "let 0;hours");
        x.rung(4);
        x.count(9);
        x.status(9);
        for (int i = 0; i < 40; i++) x.feed(0, 0, 0, 0, 0);
        for (int i = 0; i < 9; i++) x.undo();
        for (int i = 0; i < 9; i++) x.restore();
        Checks.due("status", 0, x.status(0) + x.status(1));
    }

    private static void p44_noImageKeepsIt() {
        AlarmRule x = Checks.with(Edges.TRIO, "hour;");
        Checks.noSuch("missing", () -> x.wakes(3));
        x.image();
        Checks.noSuch("missing", () -> x.wakes(3));
        Checks.illegal("wrong", () -> x.told(12));
        x.restore();
        Checks.due("status 0", 2, x.status(0));
        Checks.due("status 1", 1, x.status(1));
        x.undo();
        Checks.due("behind undo too", 3, x.status(0) + x.status(1));
    }

    private static void p45_noneForOthers() {
        for (int what : new int[] {-1, 3, Integer.MIN_VALUE, Integer.MAX_VALUE}) {
            Edges.doesNothing(Edges::busy, "count " + what, -1, x -> x.count(what));
        }
    }

    private static void p45_fromNoneToTheMost() {
        AlarmRule x = new AlarmRule();
        for (int what = 0; what < 3; what++) Checks.due("none " + what, 0, x.count(what));
        for (int i = 0; i < 17; i++) x.work(0);
        for (int i = 0; i < 4; i++) x.image();
        for (int i = 0; i < 31; i++) x.feed(0, 0, 0, 0, 0);
        Checks.due("images", 3, x.count(0));
        Checks.due("bytes", 600, x.count(1));
        Checks.due("works", 16, x.count(2));
    }
}
