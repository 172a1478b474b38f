/** Promises 9 to 45: what is asked of a republic, years, images and counts. */
public final class QuestionsTest {
    private static final String PAIR = "sleeper 10 2;sleeper 20 3;clock 10 5;clock 12 1;near 1 0 4;";
    /** Sleepers 0 and 1 sleep, 2 woke in hour 2; it is hour 5; clock 2 has no spring, clock 1 has a sock. */
    private static final String TRIO = "sleeper 20 3;sleeper 35 4;sleeper 9 1;clock 12 4;clock 25 2;clock 30 0;"
        + "near 0 0 2;near 1 1 5;near 2 0 1;socks 1;";
    private static final String TRIO_WORK = "set 0 2;sock 1;hour;hour;hour;set 1 9;set 2 9;hour;hour;";
    private static final String DRAWN = "sleeper 20 1;sleeper 9 2;sleeper 25 3;clock 10 3;clock 8 1;clock 20 0;"
        + "near 0 0 4;near 1 1 1;near 2 2 2;";

    public static void main(String[] args) {
        told();
        sleeperAndClock();
        nearAndNoise();
        would();
        rungAndRings();
        ahead();
        wakes();
        crown();
        just();
        each();
        which();
        ask();
        swing();
        lasts();
        coup();
        prophet();
        dreams();
        loudestAndLightest();
        deadDeafAll();
        votesAndStroke();
        lacks();
        idleBellsUntil();
        year();
        span();
        images();
        statusAndCount();
        Checks.end("QuestionsTest");
    }

    private static AlarmRule trio() {
        return Checks.with(TRIO, TRIO_WORK);
    }

    private static void told() {
        AlarmRule x = trio();
        Checks.book(x, "2 1;");
        int[] told = {3, 3, 5, 0, 4, 2, 7, 2, 0, 5, 1, 0};
        for (int what = 0; what < told.length; what++) Checks.due("told " + what, told[what], x.told(what));
        Checks.illegal("told -1", () -> x.told(-1));
        Checks.illegal("told 12", () -> x.told(12));
        AlarmRule y = Checks.with("sleeper 9 1;sleeper 5 1;sleeper 5 1;clock 5 9;clock 9 9;",
            "set 0 1;set 1 0;hour;snooze 0;snooze 1;snooze 2;hour;");
        Checks.due("alike ones", 1, y.told(5));
        Checks.work(y, "set 1 2;hour;");
        Checks.due("who is awake from the least hour on", 1, y.told(5));
        Checks.due("all awake", 7, y.told(4));
    }

    private static void sleeperAndClock() {
        AlarmRule x = trio();
        int[][] sleepers = {{20, 3, -1, 0, 0}, {35, 4, -1, 0, 0}, {9, 1, 2, 0, 0}};
        int[][] clocks = {{12, 3, 2, 0}, {25, 2, 9, 1}, {30, 0, 9, 0}};
        for (int i = 0; i < 3; i++) {
            for (int j = 0; j < 5; j++) Checks.due("sleeper " + i + " " + j, sleepers[i][j], x.sleeper(i, j));
            for (int j = 0; j < 4; j++) Checks.due("clock " + i + " " + j, clocks[i][j], x.clock(i, j));
        }
        Checks.work(x, "snooze 2;");
        Checks.due("it sleeps", -1, x.sleeper(2, 2));
        Checks.due("snoozed", 1, x.sleeper(2, 3));
        Checks.work(x, "let 0;set 0 5;hour;snooze 2;let 0;set 0 6;hour;again 17[hour;];");
        Checks.due("snoozed twice", 2, x.sleeper(2, 3));
        Checks.due("first at the end", 1, x.sleeper(2, 4));
        Checks.noSuch("sleeper 3", () -> x.sleeper(3, 0));
        Checks.noSuch("sleeper -1 ahead of what", () -> x.sleeper(-1, 9));
        Checks.illegal("sleeper what 5", () -> x.sleeper(0, 5));
        Checks.illegal("sleeper what -1", () -> x.sleeper(0, -1));
        Checks.noSuch("clock 3", () -> x.clock(3, 0));
        Checks.noSuch("clock -1 ahead of what", () -> x.clock(-1, 4));
        Checks.illegal("clock what 4", () -> x.clock(0, 4));
        Checks.illegal("clock what -1", () -> x.clock(0, -1));
    }

    private static void nearAndNoise() {
        AlarmRule x = trio();
        int[][] near = {{2, 0, 0}, {0, 5, 0}, {1, 0, 0}};
        int[][] noise = {{18, 13, 30}, {12, 28, 30}, {15, 13, 30}};
        for (int i = 0; i < 3; i++) {
            for (int j = 0; j < 3; j++) {
                Checks.due("near " + i + " " + j, near[i][j], x.near(i, j));
                Checks.due("noise " + i + " " + j, noise[i][j], x.noise(i, j));
            }
        }
        Checks.noSuch("near of no sleeper", () -> x.near(3, 0));
        Checks.noSuch("near of no clock", () -> x.near(0, 3));
        Checks.noSuch("noise of no sleeper", () -> x.noise(-1, 0));
        Checks.noSuch("noise of no clock", () -> x.noise(0, -1));
        Checks.due("counted", 4, x.status(0));
        Checks.law(x, "loud*0+near+depth+sock*7+hour*2+day+awake*4+spring+sleeper");
        Checks.due("by all that is now", 5 + 35 + 7 + 10 + 0 + 4 + 2 + 1, x.noise(1, 1));
        Checks.law(x, "loud - 13");
        Checks.due("0 at least", 0, x.noise(0, 0));
        Checks.law(x, "loud * 5");
        Checks.due("99 at most", 99, x.noise(0, 1));
    }

    private static void would() {
        AlarmRule x = new AlarmRule();
        Checks.due("without a law", 45, x.would(30, 9, 60, 1, 23, 300, 7, 20, 6));
        Checks.due("0 at least", 0, x.would(1, 0, 1, 1, 0, 0, 0, 0, 0));
        Checks.law(x, "day - hour * 8 - awake");
        Checks.due("by a law", 99, x.would(1, 0, 1, 0, 23, 300, 7, 0, 0));
        Checks.due("by another day", 9, x.would(1, 0, 1, 0, 23, 200, 7, 0, 0));
        int[] least = {1, 0, 1, 0, 0, 0, 0, 0, 0};
        int[] most = {30, 9, 60, 1, 23, 300, 7, 20, 6};
        for (int i = 0; i < 9; i++) {
            int[] low = least.clone();
            int[] high = most.clone();
            low[i]--;
            high[i]++;
            Checks.illegal("would below " + i, () -> would(x, low));
            Checks.illegal("would above " + i, () -> would(x, high));
        }
        Checks.due("each counted once", 18, x.status(1));
        would(x, least);
        would(x, most);
        Checks.due("edges are fine", 18, x.status(1));
    }

    private static int would(AlarmRule x, int[] a) {
        return x.would(a[0], a[1], a[2], a[3], a[4], a[5], a[6], a[7], a[8]);
    }

    private static void rungAndRings() {
        AlarmRule x = trio();
        int[] rung = {0, 0, 0, 3};
        for (int set = 0; set < 4; set++) Checks.due("rung " + set, rung[set], x.rung(set));
        for (int set = 4; set < 8; set++) Checks.due("rung " + set, -1, x.rung(set));
        Checks.illegal("rung 8", () -> x.rung(8));
        Checks.illegal("rung -1", () -> x.rung(-1));
        Checks.due("nothing stays changed", 5, x.told(9));
        Checks.due("rings", 0, x.rings());
        Checks.work(x, "again 4[hour;];");
        Checks.due("rings in hour 9", 2, x.rings());
        Checks.work(x, "wind 2;");
        Checks.due("with a spring", 6, x.rings());
    }

    private static void ahead() {
        AlarmRule x = Checks.with(PAIR, "set 0 3;set 1 23;again 2[hour;];");
        Checks.due("now", 0, x.ahead(0, 0));
        Checks.due("now, first", -1, x.ahead(0, 1));
        Checks.due("now, springs", 6, x.ahead(0, 2));
        Checks.due("in 1", 0, x.ahead(1, 0));
        Checks.due("in 2", 3, x.ahead(2, 0));
        Checks.due("in 2, first", 0, x.ahead(2, 1));
        Checks.due("in 2, springs", 5, x.ahead(2, 2));
        Checks.due("in 21", 3, x.ahead(21, 0));
        Checks.due("in 22 it is another day", 0, x.ahead(22, 0));
        Checks.due("in 22, springs", 4, x.ahead(22, 2));
        Checks.due("in 99", 3, x.ahead(99, 0));
        Checks.due("in 99, springs", 0, x.ahead(99, 2));
        Checks.due("nothing stays changed", 2, x.told(2));
        Checks.illegal("ahead -1", () -> x.ahead(-1, 0));
        Checks.illegal("ahead 100", () -> x.ahead(100, 0));
        Checks.illegal("ahead what -1", () -> x.ahead(0, -1));
        Checks.illegal("ahead what 3", () -> x.ahead(0, 3));
    }

    private static void wakes() {
        AlarmRule x = Checks.with(PAIR, "set 0 3;set 1 23;again 2[hour;];");
        Checks.due("in 2", 2, x.wakes(1));
        Checks.work(x, "hour;");
        Checks.due("in this one", 1, x.wakes(1));
        Checks.work(x, "hour;");
        Checks.due("awake: the next time", 24, x.wakes(1));
        Checks.work(x, "snooze 0;");
        Checks.due("in the last hour of a day", 20, x.wakes(0));
        Checks.due("not by that", 24, x.wakes(1));
        Checks.noSuch("wakes 2", () -> x.wakes(2));
        Checks.noSuch("wakes -1", () -> x.wakes(-1));
        AlarmRule y = Checks.with("sleeper 1 1;clock 9 1;", "set 0 0;");
        Checks.law(y, "day*9");
        Checks.due("not with one spring", -1, y.wakes(0));
        Checks.work(y, "wind 0;");
        Checks.due("by another day", 25, y.wakes(0));
        Checks.law(y, "most[0, day - 1]");
        Checks.due("not within 48", -1, y.wakes(0));
        Checks.work(y, "let 0;set 0 23;hour;");
        Checks.law(y, "day");
        Checks.due("the 47th", 47, y.wakes(0));
        AlarmRule z = Checks.with("sleeper 1 1;clock 9 9;", "set 0 23;");
        Checks.law(z, "day");
        Checks.due("the 48th", 48, z.wakes(0));
        Checks.law(z, "day / 2");
        Checks.due("the 72nd does not count", -1, z.wakes(0));
    }

    private static void crown() {
        AlarmRule x = Checks.with(PAIR);
        Checks.due("the least bits", 1, x.crown(0));
        Checks.due("not ahead of a lesser one", -1, x.crown(1));
        Checks.noSuch("crown 2", () -> x.crown(2));
        Checks.noSuch("crown -1", () -> x.crown(-1));
        Checks.work(x, "set 1 0;hour;");
        Checks.due("awake", -1, x.crown(0));
        Checks.due("the lesser one is awake", 1, x.crown(1));
        AlarmRule y = trio();
        Checks.due("two of them", 3, y.crown(0));
        Checks.due("nor alone", -1, y.crown(1));
        Checks.due("fewer ahead of lesser bits", 4,
            Checks.with("sleeper 9 1;clock 5 1;clock 5 1;clock 9 1;").crown(0));
        Checks.due("not without a spring", 3,
            Checks.with("sleeper 9 1;clock 5 1;clock 5 1;clock 9 0;").crown(0));
        String sums = "clock 1 1;clock 5 1;clock 9 1;";
        Checks.due("just together", 7, Checks.with("sleeper 15 1;" + sums).crown(0));
        Checks.due("not even together", -1, Checks.with("sleeper 16 1;" + sums).crown(0));
        Checks.due("1 and 5 together", 3, Checks.with("sleeper 6 1;sleeper 7 1;" + sums).just(1));
        Checks.due("1 and 9 together", 5, Checks.with("sleeper 10 1;sleeper 11 1;" + sums).just(1));
        Checks.due("5 and 9 together", 6, Checks.with("sleeper 14 1;sleeper 15 1;" + sums).just(1));
        Checks.due("a greater one may wake too", 1, Checks.with("sleeper 9 1;sleeper 1 1;clock 9 1;").crown(0));
    }

    private static void just() {
        AlarmRule x = Checks.with(PAIR);
        Checks.due("none", 0, x.just(0));
        Checks.due("one", 2, x.just(1));
        Checks.due("the other", -1, x.just(2));
        Checks.due("both by the fewest", 1, x.just(3));
        Checks.illegal("just 4", () -> x.just(4));
        Checks.illegal("just -1", () -> x.just(-1));
        Checks.work(x, "set 1 0;hour;");
        Checks.due("awake ones do not wake", -1, x.just(1));
        Checks.due("nor count", 1, x.just(2));
    }

    private static void each() {
        AlarmRule x = Checks.with("sleeper 10 1;sleeper 20 1;sleeper 30 1;clock 10 1;clock 1 1;clock 1 1;clock 29 0;"
            + "near 1 1 7;near 2 2 9;near 2 1 9;near 0 2 3;");
        // Alone: clock 0 wakes 0; clock 1 wakes 1 (1 and 21); clock 2 wakes 0 (1 and 9); none wakes 2 (28).
        Checks.due("none", 0, x.each(0));
        Checks.due("one", 1, x.each(1));
        Checks.due("two by two", 3, x.each(3));
        Checks.due("not together, but each by one", -1, x.each(4));
        Checks.due("nor with others", -1, x.each(7));
        Checks.work(x, "wind 3;");
        Checks.due("one for all that hear it", 8, x.each(3));
        Checks.illegal("each 8", () -> x.each(8));
        Checks.illegal("each -1", () -> x.each(-1));
        Checks.work(x, "set 0 0;hour;");
        Checks.due("awake", -1, x.each(1));
        Checks.due("the others", 2, x.each(2));
    }

    private static void which() {
        AlarmRule x = Checks.with(PAIR);
        Checks.due("all sets", 4, x.which(0));
        Checks.due("the first", 0, x.which(1));
        Checks.due("none sure", 0, x.which(2));
        Checks.book(x, "0 1;");
        Checks.due("three", 3, x.which(0));
        Checks.due("the first of three", 1, x.which(1));
        Checks.due("none in all", 0, x.which(2));
        Checks.book(x, "1 1;");
        Checks.due("two", 2, x.which(0));
        Checks.due("the first of two", 1, x.which(1));
        Checks.due("sure", 1, x.which(2));
        Checks.book(x, "1 0;0 1;");
        Checks.due("one", 1, x.which(0));
        Checks.due("that", 2, x.which(1));
        Checks.due("that is sure", 2, x.which(2));
        Checks.book(x, "1 1;0 0;");
        Checks.due("no such", 0, x.which(0));
        Checks.due("no first", -1, x.which(1));
        Checks.due("nothing sure", 0, x.which(2));
        Checks.work(x, "set 1 0;hour;");
        Checks.due("awake ones did not wake by it", 1, x.which(0));
        Checks.due("no clock without a spring", 1, x.which(1));
        Checks.illegal("which -1", () -> x.which(-1));
        Checks.illegal("which 3", () -> x.which(3));
    }

    private static void ask() {
        AlarmRule x = Checks.with(PAIR);
        // 0 wakes by 3 of 4 sets, 1 by 2 of them.
        Checks.due("whom", 1, x.ask(0));
        Checks.due("left", 2, x.ask(1));
        Checks.book(x, "1 1;");
        Checks.due("the other", 0, x.ask(0));
        Checks.due("both are left", 2, x.ask(1));
        Checks.book(x, "1 1;0 0;");
        Checks.due("all in lines", -1, x.ask(0));
        Checks.due("none left", -1, x.ask(1));
        Checks.illegal("ask -1", () -> x.ask(-1));
        Checks.illegal("ask 2", () -> x.ask(2));
        AlarmRule y = Checks.with("sleeper 5 1;sleeper 5 1;sleeper 60 1;clock 5 1;");
        Checks.due("the first of alike ones", 0, y.ask(0));
        Checks.book(y, "2 1;");
        Checks.due("no sets, but whom", 0, y.ask(0));
        Checks.due("no sets", 0, y.ask(1));
        Checks.due("no sleepers", -1, new AlarmRule().ask(0));
        Checks.due("none left of none", -1, new AlarmRule().ask(1));
    }

    private static void swing() {
        AlarmRule x = trio();
        // Votes 3, 4, 1: half is 4.
        Checks.due("3 turns 4", 1, x.swing(0));
        Checks.due("4 turns 3, 1 and both", 3, x.swing(1));
        Checks.due("1 turns 4", 1, x.swing(2));
        Checks.noSuch("swing 3", () -> x.swing(3));
        Checks.noSuch("swing -1", () -> x.swing(-1));
        Checks.due("alone", 1, Checks.with("sleeper 1 9;").swing(0));
        Checks.due("half is not more", 0, Checks.with("sleeper 1 9;sleeper 1 1;").swing(1));
    }

    private static void lasts() {
        AlarmRule x = trio();
        Checks.due("twice", 2, x.lasts(0));
        Checks.due("no spring", 0, x.lasts(2));
        Checks.work(x, "let 0;again 4[hour;];");
        Checks.due("set for none", 0, x.lasts(0));
        Checks.due("this hour the first", 2, x.lasts(1));
        Checks.work(x, "hour;");
        Checks.due("one spring", 1, x.lasts(1));
        Checks.noSuch("lasts 3", () -> x.lasts(3));
        Checks.noSuch("lasts -1", () -> x.lasts(-1));
    }

    private static void coup() {
        AlarmRule x = new AlarmRule();
        // Of 1, by 0: both at one time have 0, the earlier 1: (0, any) and (any, 0) rest.
        int[][] rows = {{10, 0, 1, 0, 10}, {9, 0, 1, 0, 8}, {50, 2, 1, 0, 30}, {10, 20, 1, 55, 10}, {0, 0, 36, 0, 0},
            {0, 1, 1, 55, 0}, {1, 0, 11, 0, 0}, {10, 3, 0, -1, 0}, {99, 20, 0, -1, 0}};
        for (int[] row : rows) {
            for (int what = 0; what < 3; what++) {
                Checks.due("coup " + row[0] + " " + row[1] + " " + what, row[2 + what], x.coup(row[0], row[1], what));
            }
        }
        int[][] bad = {{-1, 0, 0}, {100, 0, 0}, {0, -1, 0}, {0, 21, 0}, {0, 0, -1}, {0, 0, 3}};
        for (int[] b : bad) Checks.illegal("coup " + b[0] + " " + b[1] + " " + b[2], () -> x.coup(b[0], b[1], b[2]));
    }

    private static void prophet() {
        AlarmRule x = new AlarmRule();
        long[][] rows = {{2, 1, 8, 3, 4}, {3, 2, 4, 5, 32}, {0, 0, 9, 1, 1}, {0, 1, 9, 0, 1}, {12, 13, 16, 0, 1},
            {12, 12, 16, 1, 1}, {12, 12, 1, 1, 1L << 48}, {12, 1, 15, (1L << 48) - 1, 1L << 48}, {5, 1, 0, 0, 1},
            {5, 0, 0, 1, 1}, {1, 1, 6, 3, 8}, {12, 3, 5, 218421097505625L, 281474976710656L}};
        for (long[] r : rows) {
            String label = "prophet " + r[0] + " " + r[1] + " " + r[2];
            Checks.due(label + " above", r[3], x.prophet((int) r[0], (int) r[1], (int) r[2], 0));
            Checks.due(label + " below", r[4], x.prophet((int) r[0], (int) r[1], (int) r[2], 1));
        }
        int[][] bad = {{-1, 0, 0, 0}, {13, 0, 0, 0}, {0, -1, 0, 0}, {0, 14, 0, 0}, {0, 0, -1, 0}, {0, 0, 17, 0},
            {0, 0, 0, -1}, {0, 0, 0, 2}};
        for (int[] b : bad) Checks.illegal("prophet", () -> x.prophet(b[0], b[1], b[2], b[3]));
    }

    private static void dreams() {
        AlarmRule x = trio();
        // Depths 20, 35, 9.
        Checks.due("all of them", 35, x.dreams(1, 7, 64));
        Checks.due("more than all", 35, x.dreams(1, 7, 999));
        Checks.due("one less", 34, x.dreams(1, 7, 63));
        Checks.due("levelled", 15, x.dreams(0, 7, 40));
        Checks.due("levelled too", 15, x.dreams(1, 7, 40));
        Checks.due("no more than its depth", 9, x.dreams(2, 7, 40));
        Checks.due("8 each, 2 left", 8, x.dreams(2, 7, 26));
        Checks.due("too few", 0, x.dreams(0, 7, 2));
        Checks.due("none", 0, x.dreams(0, 7, 0));
        Checks.due("alone", 20, x.dreams(0, 1, 21));
        Checks.due("not told", 0, x.dreams(0, 6, 50));
        Checks.due("nobody told", 0, x.dreams(0, 0, 50));
        Checks.noSuch("dreams 3", () -> x.dreams(3, 8, 50));
        Checks.noSuch("dreams -1", () -> x.dreams(-1, 0, -1));
        Checks.illegal("dreams among 8", () -> x.dreams(0, 8, 50));
        Checks.illegal("dreams among -1", () -> x.dreams(0, -1, 50));
        Checks.illegal("dreams of -1", () -> x.dreams(0, 7, -1));
        Checks.illegal("dreams of 1000", () -> x.dreams(0, 7, 1000));
    }

    private static void loudestAndLightest() {
        AlarmRule x = trio();
        Checks.due("loudest, spring or none", 2, x.loudest(1, 0));
        Checks.due("so loud", 30, x.loudest(1, 1));
        Checks.work(x, "sock 1;move 1 0 3;");
        Checks.due("another", 1, x.loudest(0, 0));
        Checks.due("so loud too", 34, x.loudest(0, 1));
        Checks.law(x, "0");
        Checks.due("alike", 0, x.loudest(0, 0));
        Checks.due("none at all", 0, x.loudest(0, 1));
        Checks.noSuch("loudest 3", () -> x.loudest(3, 0));
        Checks.noSuch("loudest -1", () -> x.loudest(-1, 7));
        Checks.illegal("loudest what 2", () -> x.loudest(0, 2));
        Checks.illegal("loudest what -1", () -> x.loudest(0, -1));
        Checks.due("the one awake does not count", 0, x.lightest(0));
        Checks.due("its depth", 20, x.lightest(1));
        Checks.work(x, "snooze 2;");
        Checks.due("now it does", 2, x.lightest(0));
        Checks.due("its depth", 9, x.lightest(1));
        Checks.illegal("lightest 2", () -> x.lightest(2));
        Checks.illegal("lightest -1", () -> x.lightest(-1));
        AlarmRule y = Checks.with("sleeper 7 1;sleeper 7 1;");
        Checks.due("no clocks", -1, y.loudest(0, 0));
        Checks.due("no noise", -1, y.loudest(0, 1));
        Checks.due("the first of alike ones", 0, y.lightest(0));
        AlarmRule z = Checks.with("sleeper 7 1;clock 9 1;", "set 0 0;hour;");
        Checks.due("nobody sleeps", -1, z.lightest(0));
        Checks.due("nor has a depth", -1, z.lightest(1));
    }

    private static void deadDeafAll() {
        AlarmRule x = trio();
        // With springs: 18 and 13 to 0, 12 and 28 to 1.
        Checks.due("dead", 0, x.dead());
        Checks.due("deaf to 0", 3, x.deaf(0));
        Checks.due("deaf to 1", 3, x.deaf(1));
        Checks.due("deaf to 2, without a spring", 2, x.deaf(2));
        Checks.noSuch("deaf 3", () -> x.deaf(3));
        Checks.noSuch("deaf -1", () -> x.deaf(-1));
        Checks.due("all to 0", 31, x.all(0));
        Checks.due("all to 1", 40, x.all(1));
        Checks.due("all to one awake", 28, x.all(2));
        Checks.noSuch("all 3", () -> x.all(3));
        Checks.noSuch("all -1", () -> x.all(-1));
        Checks.law(x, "loud / 2");
        // 6 and 12: less than 20 and 35.
        Checks.due("both are dead", 3, x.dead());
        Checks.due("without clocks", 3, Checks.with("sleeper 1 1;sleeper 2 2;").dead());
        Checks.due("nobody", 0, new AlarmRule().dead());
    }

    private static void votesAndStroke() {
        AlarmRule x = trio();
        Checks.due("votes awake", 1, x.votes(0));
        Checks.due("votes asleep", 7, x.votes(1));
        Checks.illegal("votes 2", () -> x.votes(2));
        Checks.illegal("votes -1", () -> x.votes(-1));
        Checks.due("stroke, spring or none", 9, x.stroke(0));
        Checks.due("so many", 2, x.stroke(1));
        Checks.work(x, "let 2;");
        Checks.due("the least of alike ones", 2, x.stroke(0));
        Checks.due("one", 1, x.stroke(1));
        Checks.work(x, "let 0;let 1;");
        Checks.due("none set", -1, x.stroke(0));
        Checks.due("not one", -1, x.stroke(1));
        Checks.illegal("stroke 2", () -> x.stroke(2));
        Checks.illegal("stroke -1", () -> x.stroke(-1));
        Checks.work(x, "set 0 23;");
        Checks.due("hour 23", 23, x.stroke(0));
        Checks.work(x, "set 0 0;");
        Checks.due("hour 0", 0, x.stroke(0));
    }

    private static void lacks() {
        AlarmRule x = trio();
        Checks.due("for none", 20, x.lacks(0, 5));
        Checks.due("18 of 20", 2, x.lacks(0, 2));
        Checks.due("28 of 35, one without a spring", 7, x.lacks(1, 9));
        Checks.due("awake", 0, x.lacks(2, 5));
        Checks.work(x, "wind 2;");
        Checks.due("58 of 35", 0, x.lacks(1, 9));
        Checks.noSuch("lacks 3", () -> x.lacks(3, 24));
        Checks.noSuch("lacks -1", () -> x.lacks(-1, 0));
        Checks.illegal("lacks hour 24", () -> x.lacks(0, 24));
        Checks.illegal("lacks hour -1", () -> x.lacks(0, -1));
        Checks.law(x, "hour");
        Checks.due("as it is now", 15, x.lacks(0, 2));
        Checks.due("hour 0", 20, x.lacks(0, 0));
        Checks.due("hour 23", 20, x.lacks(0, 23));
    }

    private static void idleBellsUntil() {
        AlarmRule x = trio();
        Checks.due("idle", 4, x.idle());
        Checks.due("bells", 1 << 2 | 1 << 9, x.bells());
        Checks.due("until 9", 4, x.until());
        Checks.work(x, "let 1;");
        Checks.due("idle too", 6, x.idle());
        Checks.due("one bell", 1 << 2, x.bells());
        Checks.due("until 2 of the next day", 21, x.until());
        Checks.work(x, "set 0 0;set 1 23;");
        Checks.due("bells of 0 and 23", 1 | 1 << 23, x.bells());
        Checks.work(x, "let 1;set 0 5;");
        Checks.due("in this hour", 0, x.until());
        Checks.work(x, "hour;");
        Checks.due("in 23", 23, x.until());
        Checks.work(x, "let 0;");
        Checks.due("all are idle", 7, x.idle());
        Checks.due("no bells", 0, x.bells());
        Checks.due("never", -1, x.until());
        Checks.due("a new one", 0, new AlarmRule().idle());
    }

    private static void year() {
        AlarmRule x = Checks.with(DRAWN);
        // Reckoned by another program, in another language.
        int[][] rows = {{1, 1, 0, 0, 4, -1, 0}, {1, 10, 8, 18, 0, 0, 0}, {7, 30, 16, 64, 37, 0, 6},
            {-5, 20, 3, 14, 6, 1, 3}, {2147483647, 5, 16, 4, 18, 1, 4}};
        for (int[] r : rows) {
            for (int what = 0; what < 4; what++) {
                Checks.due("year " + r[0] + " " + what, r[3 + what], x.year(r[0], r[1], r[2], what));
            }
        }
        Checks.due("nothing stays changed", 0, x.told(3));
        int[][] bad = {{0, 0, 0}, {31, 0, 0}, {1, -1, 0}, {1, 17, 0}, {1, 0, -1}, {1, 0, 4}};
        for (int[] b : bad) Checks.illegal("year", () -> x.year(1, b[0], b[1], b[2]));
        AlarmRule y = Checks.with("sleeper 5 1;sleeper 5 1;", "hour;");
        Checks.due("without clocks", 0, y.year(1, 30, 16, 0));
        Checks.due("nobody first", -1, y.year(1, 30, 16, 2));
        Checks.due("no springs", 0, y.year(1, 30, 16, 1));
        Checks.due("no socks", 0, y.year(1, 30, 16, 3));
        // Who was first ahead of the year does not count in it.
        AlarmRule z = Checks.with("sleeper 9 1;sleeper 5 1;clock 9 1;", "set 0 0;again 24[hour;];");
        Checks.due("first ahead of it", 1, z.sleeper(0, 4));
        Checks.due("nobody in it", -1, z.year(3, 9, 0, 2));
        Checks.due("no waking in it", 0, z.year(3, 9, 0, 0));
    }

    private static void span() {
        AlarmRule x = Checks.with(DRAWN);
        // Wakings 15, 6, 3, 8 by four seeds that wrap; 0 was first by three of them, 1 by one.
        Checks.due("fewest", 3, x.span(2147483646, 4, 6, 9, 0, 0));
        Checks.due("most", 15, x.span(2147483646, 4, 6, 9, 1, 2));
        Checks.due("0 first", 3, x.span(2147483646, 4, 6, 9, 2, 0));
        Checks.due("1 first", 1, x.span(2147483646, 4, 6, 9, 2, 1));
        Checks.due("2 never", 0, x.span(2147483646, 4, 6, 9, 2, 2));
        Checks.due("of one the fewest", 15, x.span(2147483646, 1, 6, 9, 0, 0));
        Checks.due("of two the fewest", 6, x.span(2147483646, 2, 6, 9, 0, 0));
        Checks.due("a day without a waking", 0, x.span(1, 1, 1, 0, 1, 0));
        Checks.due("the greatest span", 10, x.span(1, 10, 30, 16, 2, 0));
        AlarmRule y = Checks.with("sleeper 9 1;clock 9 1;");
        Checks.due("one day is enough", 1, y.span(1, 1, 2, 0, 2, 0));
        int[][] bad = {{0, 1, 0, 0, 0}, {11, 1, 0, 0, 0}, {1, 0, 0, 0, 0}, {1, 31, 0, 0, 0}, {1, 1, -1, 0, 0},
            {1, 1, 17, 0, 0}, {1, 1, 0, -1, 0}, {1, 1, 0, 3, 0}, {1, 1, 0, 0, 3}, {1, 1, 0, 1, -1}, {1, 1, 0, 2, 3}};
        for (int[] b : bad) Checks.illegal("span", () -> x.span(1, b[0], b[1], b[2], b[3], b[4]));
        Checks.due("nothing stays changed", 4, x.told(9));
    }

    private static void images() {
        AlarmRule x = Checks.with(PAIR);
        Checks.due("no image", -1, x.restore());
        Checks.due("the first", 1, x.image());
        Checks.work(x, "hour;let 0;");
        Checks.due("the second", 2, x.image());
        Checks.work(x, "sock 1;hour;let 0;");
        Checks.work(x, "hour;");
        Checks.due("the third", 3, x.image());
        Checks.due("no fourth", -1, x.image());
        Checks.law(x, "42");
        Checks.book(x, "0 1;");
        x.undo();
        x.undo();
        x.undo();
        Checks.work(x, "let 0;again 5[hour;];");
        Checks.work(x, "again 6[hour;];");
        Checks.work(x, "again 7[hour;];");
        Checks.due("back to the third", 2, x.restore());
        Checks.due("its hour", 3, x.told(2));
        Checks.due("none refused", 0, x.told(11));
        Checks.due("its works", 3, x.count(2));
        Checks.due("that can be undone", 2, x.undo());
        Checks.due("to hour 2", 2, x.told(2));
        Checks.due("undone once more", 1, x.undo());
        Checks.due("to hour 1", 1, x.told(2));
        Checks.due("without a sock", 0, x.told(7));
        Checks.due("back to the second", 1, x.restore());
        Checks.due("hour 1", 1, x.told(2));
        Checks.due("one work", 1, x.count(2));
        Checks.due("a new third one", 2, x.image());
        Checks.due("and back", 1, x.restore());
        Checks.due("back to the first", 0, x.restore());
        Checks.due("hour 0", 0, x.told(2));
        Checks.due("no works", 0, x.count(2));
        Checks.due("the law stays", 42, x.noise(0, 0));
        Checks.due("the book stays", 1, x.told(10));
        Checks.work(x, "let 0;");
        Checks.due("none is left", -1, x.restore());
        Checks.due("and nothing changed", 1, x.told(11));
    }

    private static void statusAndCount() {
        AlarmRule x = Checks.with(PAIR, "hour;");
        Checks.due("count images", 0, x.count(0));
        x.image();
        Checks.due("count one image", 1, x.count(0));
        x.feed(1, 2, 3, 4, 5);
        Checks.due("count bytes", 20, x.count(1));
        Checks.due("count works", 1, x.count(2));
        Checks.due("count 3", -1, x.count(3));
        Checks.due("count -1", -1, x.count(-1));
        Checks.noSuch("missing", () -> x.crown(2));
        Checks.noSuch("missing too", () -> x.deaf(2));
        Checks.illegal("wrong", () -> x.told(99));
        Checks.due("status 0", 2, x.status(0));
        Checks.due("status 1", 1, x.status(1));
        Checks.due("status 2", -1, x.status(2));
        Checks.due("status -1", -1, x.status(-1));
        x.restore();
        Checks.due("no image keeps it", 2, x.status(0));
    }
}
