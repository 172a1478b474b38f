/** The boundary cases that "Terms" tells of: t1_ the texts and their faults, t2_ the steps, t3_ what is asked. */
public final class EdgesOfTermsTest {
    /** The least number of 32 bits, as a law can tell it; one less is the greatest. */
    private static final String LEAST = "256*256*256*128";

    public static void main(String[] args) throws Exception {
        Edges.runAll(EdgesOfTermsTest.class, "t1", "t2", "t3");
    }

    // 1: a republic.

    private static void t1_republicOfNoBytes() {
        AlarmRule x = Edges.busyWithoutTape();
        Checks.due("nothing", 0, x.republic(0));
        Checks.due("no fault", -1, x.fault());
        Checks.due("no clocks", 0, x.told(1));
    }

    private static void t1_republicOf600Bytes() {
        AlarmRule x = Edges.busyWithoutTape();
        String text = " ".repeat(580) + "sleeper " + "5 " + " ".repeat(8) + "1;";
        Checks.due("the last byte is the 600th", 600, text.length());
        Checks.due("it is read", 1, Checks.republic(x, text));
        Checks.due("no fault", -1, x.fault());
        Checks.due("a wrong 600th byte", -9, Checks.republic(x, text.substring(0, 599) + "x"));
        Checks.due("is found", 599, x.fault());
    }

    private static void t1_republicOf601Bytes() {
        AlarmRule x = Edges.busyWithoutTape();
        Checks.feed(x, "socks 7;" + " ".repeat(592));
        Checks.illegal("601 bytes", () -> x.republic(601));
        Checks.due("the tape stays", 600, x.count(1));
        Checks.due("all stays", 3, x.told(0));
        Checks.due("600 of them", 0, x.republic(600));
        Checks.due("are read", 7, x.told(8));
    }

    private static void t1_clauses60() {
        Edges.fine(Checks::republic, "socks 1;".repeat(60));
        Edges.fine(Checks::republic, "socks 1;".repeat(60) + " ".repeat(9));
        Edges.fault(Checks::republic, "socks 1;".repeat(61), Edges.TOO_MANY, 480);
        Edges.fault(Checks::republic, "socks 1;".repeat(60) + "  near", Edges.TOO_MANY, 482);
    }

    private static void t1_clausesOfAllKindsAreCounted() {
        String most = "sleeper1 1;".repeat(7) + "clock1 1;".repeat(6) + "near0 0 1;".repeat(20) + "socks1;".repeat(26);
        Edges.fine(Checks::republic, most + "socks1;");
        Edges.fault(Checks::republic, most + "socks1;socks1;", Edges.TOO_MANY, most.length() + 7);
        Edges.fault(Checks::republic, most + "socks1;sleeper", Edges.TOO_MANY, most.length() + 7);
    }

    private static void t1_sleepers7() {
        AlarmRule x = new AlarmRule();
        Checks.due("seven", 7, Checks.republic(x, "sleeper 1 1;".repeat(6) + "sleeper 2 9;"));
        Checks.due("numbered from 0 on", 2, x.sleeper(6, 0));
        Checks.due("the first is 0", 1, x.sleeper(0, 0));
        Edges.fault(Checks::republic, "sleeper 1 1;".repeat(8), Edges.TOO_MANY, 84);
        Edges.fault(Checks::republic, "sleeper 1 1;".repeat(7) + "  sleeper 0 0", Edges.TOO_MANY, 86);
    }

    private static void t1_clocks6() {
        AlarmRule x = new AlarmRule();
        Checks.republic(x, "clock 1 1;".repeat(5) + "clock 2 9;");
        Checks.due("six", 6, x.told(1));
        Checks.due("numbered from 0 on", 2, x.clock(5, 0));
        Checks.due("the first is 0", 1, x.clock(0, 0));
        Edges.fault(Checks::republic, "clock 1 1;".repeat(7), Edges.TOO_MANY, 60);
        Edges.fault(Checks::republic, "clock 1 1;".repeat(6) + "  clock 0 0", Edges.TOO_MANY, 62);
    }

    private static void t1_depth1To60() {
        Edges.numbers(Checks::republic, "sleeper ", 1, 60, " 1;");
        Checks.due("depth 1", 1, Checks.with("sleeper 1 1;").sleeper(0, 0));
        Checks.due("depth 60", 60, Checks.with("sleeper 60 1;").sleeper(0, 0));
    }

    private static void t1_votes1To9() {
        Edges.numbers(Checks::republic, "sleeper 1 ", 1, 9, ";");
        Checks.due("1 vote", 1, Checks.with("sleeper 1 1;").sleeper(0, 1));
        Checks.due("9 votes", 9, Checks.with("sleeper 1 9;").sleeper(0, 1));
    }

    private static void t1_loud1To30() {
        Edges.numbers(Checks::republic, "clock ", 1, 30, " 1;");
        Checks.due("loud 1", 1, Checks.with("clock 1 1;").clock(0, 0));
        Checks.due("loud 30", 30, Checks.with("clock 30 1;").clock(0, 0));
    }

    private static void t1_spring0To20() {
        Edges.numbers(Checks::republic, "clock 1 ", 0, 20, ";");
        Checks.due("spring 0", 0, Checks.with("clock 1 0;").clock(0, 1));
        Checks.due("spring 20", 20, Checks.with("clock 1 20;").clock(0, 1));
    }

    private static void t1_near0To9() {
        Edges.numbers(Checks::republic, "sleeper 1 1;clock 1 1;near 0 0 ", 0, 9, ";");
        Checks.due("near 9", 9, Checks.with("sleeper 1 1;clock 1 1;near 0 0 9;").near(0, 0));
        Checks.due("near 0", 0, Checks.with("sleeper 1 1;clock 1 1;near 0 0 0;").near(0, 0));
    }

    private static void t1_nearOfThoseToldAhead() {
        Edges.numbers(Checks::republic, "sleeper 1 1;sleeper 2 2;clock 1 1;near ", 0, 1, " 0 5;");
        Edges.numbers(Checks::republic, "sleeper 1 1;clock 1 1;clock 2 2;near 0 ", 0, 1, " 5;");
        Edges.fault(Checks::republic, "near 0 0 1;sleeper 1 1;clock 1 1;", Edges.NO_SUCH, 5);
        Edges.fault(Checks::republic, "sleeper 1 1;near 0 0 1;clock 1 1;", Edges.NO_SUCH, 19);
        Edges.fault(Checks::republic, "clock 1 1;near 0 0 1;sleeper 1 1;", Edges.NO_SUCH, 15);
        Edges.fault(Checks::republic, "sleeper 1 1;clock 1 1;near 1 0 1;sleeper 2 2;", Edges.NO_SUCH, 27);
        Edges.fine(Checks::republic, "clock 1 1;sleeper 1 1;near 0 0 1;sleeper 2 2;near 1 0 1;");
    }

    private static void t1_nearOfTheLastOnes() {
        AlarmRule x = Checks.with(Edges.FULL + "near 6 5 9;near 0 5 8;near 6 0 7;");
        Checks.due("the last of both", 9, x.near(6, 5));
        Checks.due("the first and the last", 8, x.near(0, 5));
        Checks.due("the last and the first", 7, x.near(6, 0));
        Edges.fault(Checks::republic, Edges.FULL + "near 7 0 1;", Edges.NO_SUCH, Edges.FULL.length() + 5);
        Edges.fault(Checks::republic, Edges.FULL + "near 0 6 1;", Edges.NO_SUCH, Edges.FULL.length() + 7);
    }

    private static void t1_nearWithoutIs0() {
        AlarmRule x = Checks.with("sleeper 1 1;sleeper 1 1;clock 1 1;near 1 0 3;");
        Checks.due("not told", 0, x.near(0, 0));
        Checks.due("told", 3, x.near(1, 0));
        Checks.republic(x, "sleeper 1 1;sleeper 1 1;clock 1 1;");
        Checks.due("told of a former republic", 0, x.near(1, 0));
    }

    private static void t1_nearTheLastCounts() {
        AlarmRule x = Checks.with("sleeper 1 1;sleeper 1 1;clock 1 1;near 0 0 3;near 1 0 4;near 0 0 9;near 0 0 0;");
        Checks.due("the last", 0, x.near(0, 0));
        Checks.due("of one sleeper and clock", 4, x.near(1, 0));
    }

    private static void t1_socks0To9() {
        Edges.numbers(Checks::republic, "socks ", 0, 9, ";");
        Checks.due("none", 0, Checks.with("socks 0;").told(8));
        Checks.due("nine", 9, Checks.with("socks 9;").told(8));
    }

    private static void t1_socksWithoutAre2() {
        Checks.due("a new object", 2, new AlarmRule().told(8));
        AlarmRule x = Checks.with("socks 7;");
        Checks.republic(x, "sleeper 1 1;");
        Checks.due("a republic that does not tell", 2, x.told(8));
    }

    private static void t1_socksTheLastCounts() {
        Checks.due("the last", 0, Checks.with("socks 3;socks 9;socks 0;").told(8));
    }

    // 1: a law.

    private static void t1_lawOf150Bytes() {
        AlarmRule x = Edges.busyWithoutTape();
        Checks.due("the 150th byte is read", 1, Checks.law(x, " ".repeat(149) + "7"));
        Checks.due("as it stands there", 7, x.noise(0, 0));
        Checks.due("75 numbers and 74 signs", 1, Checks.law(x, "1+".repeat(74) + "1 "));
        Checks.due("are added", 75, x.noise(0, 0));
        Checks.due("a wrong 150th byte", -9, Checks.law(x, " ".repeat(148) + "7;"));
        Checks.due("is found", 149, x.fault());
    }

    private static void t1_lawOf151Bytes() {
        AlarmRule x = Edges.busyWithoutTape();
        Checks.law(x, "50");
        Checks.feed(x, "7" + " ".repeat(159));
        Checks.illegal("151 bytes", () -> x.law(151));
        Checks.due("the tape stays", 160, x.count(1));
        Checks.due("the law stays", 50, x.noise(0, 0));
        Checks.due("150 of them", 1, x.law(150));
        Checks.due("are read", 7, x.noise(0, 0));
    }

    private static void t1_lawAtTheEndNothingMore() {
        Edges.fine(Checks::law, "loud   ");
        Edges.fault(Checks::law, "loud;", Edges.MISPLACED, 4);
        Edges.fault(Checks::law, "loud near", Edges.MISPLACED, 5);
        Edges.fault(Checks::law, "(loud))", Edges.MISPLACED, 6);
        Edges.fault(Checks::law, "least[1,2]]", Edges.MISPLACED, 10);
        Edges.fault(Checks::law, "1 2", Edges.MISPLACED, 2);
    }

    private static void t1_lawIsNotEmpty() {
        Edges.fault(Checks::law, "", Edges.MISPLACED, 0);
        Edges.fault(Checks::law, "    ", Edges.MISPLACED, 4);
        Edges.fault(Checks::law, "()", Edges.MISPLACED, 1);
        Edges.fault(Checks::law, "least[,1]", Edges.MISPLACED, 6);
        Edges.fault(Checks::law, "most[1,]", Edges.MISPLACED, 7);
    }

    private static void t1_lawWithout() {
        AlarmRule x = new AlarmRule();
        for (int sock = 0; sock < 2; sock++) {
            Checks.due("loud + near * 3 - sock * 12", 20 + 27 - 12 * sock, x.would(20, 9, 1, sock, 0, 0, 0, 0, 0));
        }
        Checks.due("0 at least", 0, x.would(11, 0, 1, 1, 0, 0, 0, 0, 0));
        Checks.due("0", 0, x.would(12, 0, 1, 1, 0, 0, 0, 0, 0));
        Checks.due("1", 1, x.would(13, 0, 1, 1, 0, 0, 0, 0, 0));
    }

    private static void lawIs(String text, int due) {
        AlarmRule x = Checks.with("sleeper 1 1;clock 1 1;");
        Checks.due(text, 1, Checks.law(x, text));
        Checks.due(text + ", as noise", due, x.noise(0, 0));
        Checks.due(text + ", as would", due, x.would(1, 0, 1, 0, 0, 0, 0, 1, 0));
    }

    private static void t1_noise0AtLeast() {
        lawIs("1", 1);
        lawIs("0", 0);
        lawIs("0-1", 0);
        lawIs(LEAST, 0);
    }

    private static void t1_noise99AtMost() {
        lawIs("98", 98);
        lawIs("99", 99);
        lawIs("100", 99);
        lawIs(LEAST + "-1", 99);
    }

    private static void t1_noiseIsBoundedOfEachClock() {
        // 0 and 99 of two clocks, not 160 less 100.
        AlarmRule x = Checks.with("sleeper 60 1;clock 1 1;clock 21 1;");
        Checks.law(x, "(loud - 6) * 20");
        Checks.due("together", 99, x.all(0));
        Checks.law(x, "loud * 99");
        Checks.due("more than 99 together", 198, x.all(0));
    }

    private static void t1_lawNumbers0To999() {
        Edges.numbers(Checks::law, "1 + ", 0, 999, " - 1");
        lawIs("999-900", 99);
        lawIs("0", 0);
    }

    private static void t1_lawNamesAtTheirEdges() {
        AlarmRule x = new AlarmRule();
        String[] names = {"loud", "near", "depth", "sock", "hour", "day", "awake", "spring", "sleeper"};
        int[] least = {1, 0, 1, 0, 0, 0, 0, 0, 0};
        int[] most = {30, 9, 60, 1, 23, 300, 7, 20, 6};
        for (int i = 0; i < names.length; i++) {
            Checks.law(x, names[i] + "%100");
            Checks.due("least " + names[i], least[i], x.would(1, 0, 1, 0, 0, 0, 0, 0, 0));
            Checks.due("most " + names[i], most[i] % 100, x.would(30, 9, 60, 1, 23, 300, 7, 20, 6));
        }
    }

    private static void t1_lawSockIs1OrElse0() {
        AlarmRule x = Checks.with("sleeper 1 1;clock 1 1;");
        Checks.law(x, "sock + 5");
        Checks.due("none in it", 5, x.noise(0, 0));
        Checks.work(x, "sock 0;");
        Checks.due("one in it", 6, x.noise(0, 0));
        Checks.work(x, "sock 0;");
        Checks.due("out again", 5, x.noise(0, 0));
    }

    private static void t1_lawHourIs0To23() {
        AlarmRule x = Checks.with("sleeper 1 1;clock 1 1;");
        Checks.law(x, "day * 30 + hour");
        Checks.due("hour 0", 0, x.noise(0, 0));
        Checks.work(x, "again 23[hour;];");
        Checks.due("hour 23", 23, x.noise(0, 0));
        Checks.work(x, "hour;");
        Checks.due("hour 0 of day 1", 30, x.noise(0, 0));
    }

    private static void t1_lawAwakeIsHowManyAre() {
        AlarmRule x = Checks.with("sleeper 1 1;".repeat(7) + "clock 1 20;", "set 0 0;");
        Checks.law(x, "awake + 1");
        Checks.due("none", 1, x.noise(6, 0));
        Checks.work(x, "hour;");
        Checks.due("all seven", 8, x.noise(6, 0));
        Checks.work(x, "snooze 6;");
        Checks.due("six", 7, x.noise(6, 0));
    }

    private static void t1_lawSpringIsHowOftenItCanRingYet() {
        AlarmRule x = Checks.with("sleeper 60 1;clock 1 1;clock 1 20;", "set 0 0;set 1 0;");
        Checks.law(x, "spring");
        Checks.due("20", 20, x.noise(0, 1));
        Checks.work(x, "hour;");
        Checks.due("19", 19, x.noise(0, 1));
        Checks.due("0", 0, x.noise(0, 0));
    }

    private static void t1_valuesWrap() {
        lawIs("(" + LEAST + "-1)%100", 47);
        lawIs(LEAST + "-1+1", 0);
        lawIs("(" + LEAST + "-1+1)%100+60", 12);
        lawIs(LEAST + "%100+60", 12);
        lawIs("0-" + LEAST, 0);
        lawIs("0-" + LEAST + "-1", 99);
        lawIs(LEAST + "+" + LEAST + "+3", 3);
        lawIs("(" + LEAST + "-1)*2+50", 48);
        lawIs(LEAST + "*2+7", 7);
        lawIs("999*999*999*999/999%100", 0);
        lawIs("999*999*999*9%100", 999 * 999 * 999 * 9 % 100);
        lawIs("(0-999)*999*999*9%100+150", 51);
    }

    private static void t1_valuesWrapWhereTheyAreDivided() {
        lawIs(LEAST + "/(0-1)", 0);
        lawIs(LEAST + "/(0-1)-1", 99);
        lawIs(LEAST + "%(0-1)+5", 5);
    }

    private static void t1_leastAndMostOfTheFarthest() {
        lawIs("least[" + LEAST + "," + LEAST + "-1]%100+60", 12);
        lawIs("least[" + LEAST + "-1," + LEAST + "]%100+60", 12);
        lawIs("most[" + LEAST + "," + LEAST + "-1]%100", 47);
        lawIs("most[" + LEAST + "-1," + LEAST + "]%100", 47);
        lawIs("least[4,4]+most[4,4]", 8);
    }

    private static void t1_divisionCuts() {
        lawIs("7/2", 3);
        lawIs("(0-7)/2+50", 47);
        lawIs("7/(0-2)+50", 47);
        lawIs("(0-7)/(0-2)", 3);
        lawIs("(0-1)/2+50", 50);
    }

    private static void t1_remainderHasTheSignOfWhatIsDivided() {
        lawIs("7%3", 1);
        lawIs("(0-7)%3+50", 49);
        lawIs("7%(0-3)+50", 51);
        lawIs("(0-7)%(0-3)+50", 49);
        lawIs("6%3+50", 50);
        lawIs("(0-6)%3+50", 50);
    }

    private static void t1_by0BothAre0() {
        lawIs("7/0+50", 50);
        lawIs("7%0+50", 50);
        lawIs("0/0+50", 50);
        lawIs("0%0+50", 50);
        lawIs("7/near+50", 50);
        lawIs("7%(loud-1)+50", 50);
        lawIs("7/1", 7);
        lawIs("7%1+50", 50);
        lawIs(LEAST + "/0+50", 50);
    }

    // 1: work and a book.

    private static void t1_workOf150Bytes() {
        AlarmRule x = new AlarmRule();
        Checks.due("30 steps of 5 bytes", 30, Checks.work(x, "hour;".repeat(30)));
        Checks.due("day 1", 1, x.told(3));
        Checks.due("hour 6", 6, x.told(2));
        Checks.due("a wrong 150th byte", -9, Checks.work(x, "hour;".repeat(29) + "hour "));
        Checks.due("is found", 150, x.fault());
        Checks.due("nothing at all", 0, Checks.work(x, ""));
        Checks.due("150 blanks", 0, Checks.work(x, " ".repeat(150)));
        AlarmRule y = Checks.with(Edges.FULL, "set 5 3;");
        Checks.due("the 30th of 30 steps", 1, Checks.work(y, "let0;".repeat(29) + "let5;"));
        Checks.due("is of its own clock", -1, y.clock(5, 2));
    }

    private static void t1_workOf151Bytes() {
        AlarmRule x = Edges.busyWithoutTape();
        Checks.feed(x, "hour;" + " ".repeat(155));
        Checks.illegal("151 bytes", () -> x.work(151));
        Checks.due("the tape stays", 160, x.count(1));
        Checks.due("nothing is done", 9, x.told(2));
        Checks.due("150 of them", 1, x.work(150));
        Checks.due("are done", 10, x.told(2));
    }

    private static void t1_setOfSuchClocksAndHours() {
        Edges.numbers(Checks::work, "set ", 0, 2, " 5;");
        Edges.numbers(Checks::work, "set 0 ", 0, 23, ";");
        AlarmRule x = Checks.with(Edges.FULL, "set 5 23;set 0 0;");
        Checks.due("the last clock, the last hour", 23, x.clock(5, 2));
        Checks.due("the first clock, the first hour", 0, x.clock(0, 2));
        Checks.due("no such clock", -8, Checks.work(x, "set 6 0;"));
    }

    private static void t1_letOfSuchClocks() {
        Edges.numbers(Checks::work, "let ", 0, 2, ";");
        Checks.due("no clocks at all", -8, Checks.work(new AlarmRule(), "let 0;"));
    }

    private static void t1_windOfSuchClocks() {
        Edges.numbers(Checks::work, "wind ", 0, 2, ";");
        Checks.due("no clocks at all", -8, Checks.work(new AlarmRule(), "wind 0;"));
    }

    private static void t1_sockOfSuchClocks() {
        Edges.numbers(Checks::work, "sock ", 0, 2, ";");
        Checks.due("no clocks at all", -8, Checks.work(new AlarmRule(), "sock 0;"));
    }

    private static void t1_moveOfSuchClocksSleepersAndNears() {
        Edges.numbers(Checks::work, "move ", 0, 2, " 0 5;");
        Edges.numbers(Checks::work, "move 0 ", 0, 2, " 5;");
        Edges.numbers(Checks::work, "move 0 0 ", 0, 9, ";");
        AlarmRule x = Checks.with(Edges.FULL, "move 5 6 9;");
        Checks.due("the last ones", 9, x.near(6, 5));
        Checks.due("clock and sleeper are not changed about", -8, Checks.work(x, "move 6 5 9;"));
        Checks.due("at the clock", 5, x.fault());
    }

    private static void t1_snoozeOfSuchSleepers() {
        Edges.numbers(Checks::work, "snooze ", 0, 2, ";");
        Checks.due("no sleepers at all", -8, Checks.work(new AlarmRule(), "snooze 0;"));
    }

    private static void t1_again0To60() {
        Edges.numbers(Checks::work, "again ", 0, 60, "[hour;];");
        Checks.due("0 times", 0, Checks.work(new AlarmRule(), "again 0[hour;];"));
        Checks.due("60 times", 60, Checks.work(new AlarmRule(), "again 60[hour;];"));
        Checks.due("nothing in it", 0, Checks.work(new AlarmRule(), "again 60[];"));
    }

    private static void t1_bookOf60Bytes() {
        AlarmRule x = Edges.busyWithoutTape();
        Checks.due("the 60th byte is read", 2, Checks.book(x, "0 1;" + " ".repeat(52) + "2 1;"));
        Checks.due("no fault", -1, x.fault());
        Checks.due("a wrong 60th byte", -9, Checks.book(x, "0 1;" + " ".repeat(55) + ";"));
        Checks.due("is found", 59, x.fault());
        Checks.due("nothing at all", 0, Checks.book(x, ""));
        Checks.due("60 blanks", 0, Checks.book(x, " ".repeat(60)));
    }

    private static void t1_bookOf61Bytes() {
        AlarmRule x = Edges.busyWithoutTape();
        Checks.feed(x, "0 1;2 1;" + " ".repeat(72));
        Checks.illegal("61 bytes", () -> x.book(61));
        Checks.due("the tape stays", 80, x.count(1));
        Checks.due("the book stays", 1, x.told(10));
        Checks.due("60 of them", 2, x.book(60));
        Checks.due("are read", 2, x.told(10));
    }

    private static void t1_bookOfSuchSleepers() {
        Edges.numbers(Checks::book, "", 0, 2, " 1;");
        Checks.due("seven lines", 7, Checks.book(Edges.full(), "0 1;1 0;2 1;3 0;4 1;5 0;6 1;"));
        Checks.due("no eighth", -8, Checks.book(Edges.full(), "0 1;1 0;2 1;3 0;4 1;5 0;6 1;7 1;"));
        Checks.due("no sleepers at all", -8, Checks.book(new AlarmRule(), "0 1;"));
    }

    private static void t1_bookNoSleeperTwice() {
        Edges.fine(Checks::book, "0 1;1 1;2 0;");
        Edges.fault(Checks::book, "0 1;1 1;0 1;", Edges.NO_SUCH, 8);
        Edges.fault(Checks::book, "0 1;0 0;", Edges.NO_SUCH, 4);
        Edges.fault(Checks::book, "2 1;  002 0;", Edges.NO_SUCH, 6);
        Edges.fault(Checks::book, "1 0;1", Edges.NO_SUCH, 4);
        Checks.due("after all seven", -8, Checks.book(Edges.full(), "0 1;1 0;2 1;3 0;4 1;5 0;6 1;6 1;"));
    }

    private static void t1_bookWoke1OrDidNot0() {
        Edges.numbers(Checks::book, "0 ", 0, 1, ";");
    }

    // 1: numbers, words, blanks, faults.

    private static void t1_digitsAsManyAsStandThere() {
        AlarmRule x = new AlarmRule();
        Checks.due("zeros ahead", 0, Checks.republic(x, "socks " + "0".repeat(500) + "9;"));
        Checks.due("are no more than that", 9, x.told(8));
        Checks.due("ten", -8, Checks.republic(x, "socks " + "0".repeat(500) + "10;"));
        Checks.due("a very great one", -8, Checks.republic(x, "socks " + "4".repeat(500) + ";"));
        Checks.feed(x, "12345");
        Checks.due("behind the text they do not stand there", 1, x.law(2));
        Checks.due("so 12", 12, x.would(1, 0, 1, 0, 0, 0, 0, 0, 0));
        Edges.fault(Checks::republic, "sleeper 11;", Edges.MISPLACED, 10);
    }

    private static void t1_lettersAsManyAsStandThere() {
        AlarmRule x = new AlarmRule();
        Edges.fault(Checks::work, "hourhour;", Edges.MISPLACED, 0);
        Edges.fault(Checks::work, "hour;hours;", Edges.MISPLACED, 5);
        Edges.fault(Checks::republic, "sleepersleeper 1 1;", Edges.MISPLACED, 0);
        Edges.fault(Checks::law, "1+loudnear", Edges.MISPLACED, 2);
        Edges.fault(Checks::law, "1+lou", Edges.MISPLACED, 2);
        Edges.fault(Checks::law, "1+Loud", Edges.MISPLACED, 2);
        Edges.fault(Checks::law, "1+l", Edges.MISPLACED, 2);
        Edges.fault(Checks::law, "loudL", Edges.MISPLACED, 4);
        Checks.feed(x, "loudness");
        Checks.due("behind the text they do not stand there", 1, x.law(4));
    }

    private static void t1_noBlankIsNeededWhereNoneWouldBeMissed() {
        Edges.fine(Checks::republic, "sleeper1 1;clock1 1;near0 0 1;socks1;");
        Edges.fine(Checks::work, "set0 1;let0;wind0;sock0;move0 0 1;snooze0;again1[hour;];");
        Edges.fine(Checks::law, "1+loud*least[near,2]-(3)");
    }

    private static void t1_blanksAheadOfAllAndAtTheEnd() {
        Edges.fine(Checks::republic, "  sleeper  1  1  ;  clock  1  1  ;  near  0  0  1  ;  socks  1  ;  ");
        Edges.fine(Checks::work, "  set  0  1  ;  again  2  [  hour  ;  let  0  ;  ]  ;  move  0  0  1  ;  ");
        Edges.fine(Checks::law, "  1  +  loud  *  least  [  near  ,  2  ]  -  (  3  )  %  4  /  5  ");
        Edges.fine(Checks::book, "  0  1  ;  1  0  ;  ");
    }

    private static void t1_blanksNotWithin() {
        Edges.fault(Checks::republic, "sle eper 1 1;", Edges.MISPLACED, 0);
        Edges.fault(Checks::work, "ho ur;", Edges.MISPLACED, 0);
        Edges.fault(Checks::law, "1 0", Edges.MISPLACED, 2);
        Edges.fault(Checks::republic, "sleeper 1 1 1;", Edges.MISPLACED, 12);
    }

    private static void t1_blanksAre32Alone() {
        for (int sign : new int[] {0, 9, 10, 13, 31, 33, 95, 127, 128, 160, 255}) {
            Edges.fault(Checks::law, (char) sign + "loud", Edges.MISPLACED, 0);
            Edges.fault(Checks::work, "hour;" + (char) sign, Edges.MISPLACED, 5);
            Edges.fault(Checks::book, "0" + (char) sign + "1;", Edges.MISPLACED, 1);
            Edges.fault(Checks::republic, "socks" + (char) sign + "1;", Edges.MISPLACED, 5);
        }
    }

    private static void t1_bytesNextToDigitsAndLetters() {
        Edges.fault(Checks::law, "1/", Edges.MISPLACED, 2);
        Edges.fault(Checks::law, "1:", Edges.MISPLACED, 1);
        Edges.fault(Checks::law, "/1", Edges.MISPLACED, 0);
        Edges.fault(Checks::law, ":1", Edges.MISPLACED, 0);
        Edges.fault(Checks::law, "loud`", Edges.MISPLACED, 4);
        Edges.fault(Checks::law, "loud{", Edges.MISPLACED, 4);
    }

    private static void t1_fault1AtTheLength() {
        String[] works = {"hour", "hour  ", "again", "again 1", "again 1[", "again 1[hour", "again 1[hour;", "again 1[]",
            "set", "set 0", "set 0 1", "move 0 0 ", "snooze", "hour;let 0"};
        for (String text : works) Edges.fault(Checks::work, text, Edges.MISPLACED, text.length());
        String[] laws = {"1+", "1*  ", "(", "(1", "least", "least[", "least[1", "least[1,", "most[1,2", "1+(2*3"};
        for (String text : laws) Edges.fault(Checks::law, text, Edges.MISPLACED, text.length());
        String[] republics = {"sleeper", "sleeper 1 ", "sleeper 1 1", "clock", "clock 1", "clock 1 1", "socks", "socks 1",
            "sleeper 1 1;clock 1 1;near", "sleeper 1 1;clock 1 1;near 0", "sleeper 1 1;clock 1 1;near 0 0",
            "sleeper 1 1;clock 1 1;near 0 0 1"};
        for (String text : republics) Edges.fault(Checks::republic, text, Edges.MISPLACED, text.length());
        String[] books = {"0", "0 ", "0 1", "0 1;1", "0 1;1 1  "};
        for (String text : books) Edges.fault(Checks::book, text, Edges.MISPLACED, text.length());
    }

    private static void t1_fault1AtWhatCantStandThere() {
        Edges.fault(Checks::work, "hour;  ;", Edges.MISPLACED, 7);
        Edges.fault(Checks::work, "]", Edges.MISPLACED, 0);
        Edges.fault(Checks::work, "again 1[hour];", Edges.MISPLACED, 12);
        Edges.fault(Checks::work, "again 1[hour;)", Edges.MISPLACED, 13);
        Edges.fault(Checks::work, "1;", Edges.MISPLACED, 0);
        Edges.fault(Checks::work, "sleeper 1 1;", Edges.MISPLACED, 0);
        Edges.fault(Checks::republic, "hour;", Edges.MISPLACED, 0);
        Edges.fault(Checks::law, "hours", Edges.MISPLACED, 0);
        Edges.fault(Checks::law, "+1", Edges.MISPLACED, 0);
        Edges.fault(Checks::law, "1+-1", Edges.MISPLACED, 2);
        Edges.fault(Checks::law, "least(1,2)", Edges.MISPLACED, 5);
        Edges.fault(Checks::law, "least[1;2]", Edges.MISPLACED, 7);
        Edges.fault(Checks::law, "most[1,2,3]", Edges.MISPLACED, 8);
        Edges.fault(Checks::book, "0,1;", Edges.MISPLACED, 1);
        Edges.fault(Checks::book, "x", Edges.MISPLACED, 0);
        Edges.fault(Checks::book, "0 1 1;", Edges.MISPLACED, 4);
    }

    private static void t1_sixOpenAtOneTime() {
        Edges.fine(Checks::law, "((((((1))))))");
        Edges.fine(Checks::law, "least[most[least[most[least[most[1,2],3],4],5],6],7]");
        Edges.fine(Checks::law, "(least[(most[(least[1,2]),3]),4])");
        Edges.fine(Checks::law, "((((((1))))))+((((((2))))))");
        Edges.fine(Checks::law, "least[(((((1))))),(((((2)))))]");
        Edges.fine(Checks::work, "again 1[".repeat(6) + "hour;" + "];".repeat(6));
        Edges.fine(Checks::work, "again 1[".repeat(6) + "];".repeat(6) + "again 1[".repeat(6) + "];".repeat(6));
    }

    private static void t1_noSeventhOpenAtOneTime() {
        Edges.fault(Checks::law, "(((((((1)))))))", Edges.TOO_MANY, 6);
        Edges.fault(Checks::law, "((((((  (1)))))))", Edges.TOO_MANY, 8);
        Edges.fault(Checks::law, "((((((least[1,2]))))))", Edges.TOO_MANY, 6);
        Edges.fault(Checks::law, "((((((1+most[1,2]))))))", Edges.TOO_MANY, 8);
        Edges.fault(Checks::law, "((((((1))))))+(((((((2)))))))", Edges.TOO_MANY, 20);
        Edges.fault(Checks::law, "least[(((((1))))),((((((2))))))]", Edges.TOO_MANY, 23);
        Edges.fault(Checks::law, "(least[(most[(least[1,(2)]),3]),4])", Edges.TOO_MANY, 22);
        Edges.fault(Checks::work, "again 1[".repeat(7) + "hour;" + "];".repeat(7), Edges.TOO_MANY, 48);
        Edges.fault(Checks::work, "again 1[".repeat(6) + "hour;  again", Edges.TOO_MANY, 55);
    }

    private static void t1_theFirstFromTheLeft() {
        Edges.fault(Checks::republic, "sleeper 99 x", Edges.NO_SUCH, 8);
        Edges.fault(Checks::republic, "sleeper x 99", Edges.MISPLACED, 8);
        Edges.fault(Checks::republic, "sleeper 1 1;".repeat(7) + "sleeper 99 x", Edges.TOO_MANY, 84);
        Edges.fault(Checks::republic, "socks 10;" + "socks 1;".repeat(60), Edges.NO_SUCH, 6);
        Edges.fault(Checks::law, "1000+(((((((1", Edges.NO_SUCH, 0);
        Edges.fault(Checks::law, "(((((((1000", Edges.TOO_MANY, 6);
        Edges.fault(Checks::law, "((((((1000+(", Edges.NO_SUCH, 6);
        Edges.fault(Checks::work, "let 3;hours", Edges.NO_SUCH, 4);
        Edges.fault(Checks::work, "let 3", Edges.NO_SUCH, 4);
        Edges.fault(Checks::work, "again 61 x", Edges.NO_SUCH, 6);
        Edges.fault(Checks::work, "set 3 24;", Edges.NO_SUCH, 4);
        Edges.fault(Checks::work, "move 3 3 10;", Edges.NO_SUCH, 5);
        Edges.fault(Checks::book, "3 2;", Edges.NO_SUCH, 0);
        Edges.fault(Checks::book, "0 2;0", Edges.NO_SUCH, 2);
    }

    private static void t1_ofOnePlaceTheLeast() {
        Edges.fault(Checks::republic, "socks 1;".repeat(60) + "sock 1;", Edges.MISPLACED, 480);
        Edges.fault(Checks::republic, "socks 1;".repeat(60) + ";", Edges.MISPLACED, 480);
        Edges.fault(Checks::republic, "sleeper 1 1;".repeat(7) + "sleepers 1 1;", Edges.MISPLACED, 84);
        Edges.fault(Checks::republic, "sleeper 1 1;".repeat(7) + "socks sleeper 1 1;", Edges.MISPLACED, 90);
        Edges.fault(Checks::law, "((((((1(", Edges.MISPLACED, 7);
        Edges.fault(Checks::law, "((((((1 least", Edges.MISPLACED, 8);
        Edges.fault(Checks::law, "((((((leas", Edges.MISPLACED, 6);
        Edges.fault(Checks::work, "again 1[".repeat(6) + "hour again", Edges.MISPLACED, 53);
        Edges.fault(Checks::work, "again 1[".repeat(6) + "agains", Edges.MISPLACED, 48);
        Edges.fault(Checks::work, "let 0 3;", Edges.MISPLACED, 6);
        Edges.fault(Checks::law, "1 1000", Edges.MISPLACED, 2);
        Edges.fault(Checks::book, "0 1 9;", Edges.MISPLACED, 4);
    }

    // 2: steps.

    private static void t2_atFirst() {
        AlarmRule x = Checks.with(Edges.FULL);
        int[] due = {7, 6, 0, 0, 0, -1, 0, 0, 2, 21, 0, 0};
        for (int what = 0; what < due.length; what++) Checks.due("told " + what, due[what], x.told(what));
        for (int s = 0; s < 7; s++) Checks.due("sleeps " + s, -1, x.sleeper(s, 2));
        for (int c = 0; c < 6; c++) Checks.due("is set for none " + c, -1, x.clock(c, 2));
        for (int c = 0; c < 6; c++) Checks.due("no sock in " + c, 0, x.clock(c, 3));
    }

    /** A work whose only step is refused leaves all as a work without steps does. */
    private static void stepRefused(String republic, String before, String step) {
        AlarmRule twin = Checks.with(republic, before);
        AlarmRule x = Checks.with(republic, before);
        Checks.due("no step", 0, Checks.work(twin, ""));
        Checks.due(step + " is not done", 0, Checks.work(x, step + ";"));
        Checks.due(step + " is refused", 1, x.told(11));
        Checks.due(step + " is no fault", -1, x.fault());
        Checks.due(step + " is no refused call", 0, x.status(0) + x.status(1));
        Edges.same(step, twin, x);
    }

    private static void stepDone(String republic, String before, String step) {
        AlarmRule x = Checks.with(republic, before);
        Checks.due(step + " is done", 1, Checks.work(x, step + ";"));
        Checks.due(step + " is not refused", 0, x.told(11));
    }

    private static void t2_steps200AreBegun() {
        // An again and 195 hours are 196.
        String most = "again 39[hour;hour;hour;hour;hour;];";
        AlarmRule x = Checks.with("clock 1 0;");
        Checks.due("199", 198, Checks.work(x, most + "hour;hour;hour;"));
        Checks.due("200", 199, Checks.work(x, most + "hour;hour;hour;hour;"));
        Checks.due("the 201st is left out", 199, Checks.work(x, most + "hour;hour;hour;hour;hour;"));
        Checks.due("nor is it refused", 0, x.told(11));
        Checks.due("hours", (198 + 199 + 199) % 24, x.told(2));
        Checks.due("the 200th is done", 199, Checks.work(x, most + "hour;hour;hour;wind 0;let 0;"));
        Checks.due("the 201st is not even refused", 0, x.told(11));
        Checks.due("the 200th is refused", 198, Checks.work(x, most + "hour;hour;hour;let 0;let 0;"));
        Checks.due("and no more", 1, x.told(11));
    }

    private static void t2_refusedStepsAreBegunToo() {
        AlarmRule x = Checks.with("clock 1 0;");
        Checks.due("4 of 5 are done", 159, Checks.work(x, "again 60[let 0;hour;hour;hour;hour;];hour;"));
        Checks.due("40 are refused", 40, x.told(11));
        Checks.due("199 refused", 0, Checks.work(x, "again 60[let 0;let 0;let 0;let 0;];hour;"));
        Checks.due("and none done", 199, x.told(11));
    }

    private static void t2_againsAreBegunEachTime() {
        AlarmRule x = new AlarmRule();
        // 1, then 50 times an again and three hours: the 200th is the last but one of those.
        Checks.due("the 200th", 50 * 3 - 1, Checks.work(x, "again 50[again 0[];hour;hour;hour;];hour;"));
        Checks.due("agains alone", 0, Checks.work(x, "again 60[again 60[again 60[];];];hour;"));
        Checks.due("one that is the 200th", 198, Checks.work(x,
            "again 33[hour;hour;hour;hour;hour;hour;];again 1[hour;];hour;"));
        Checks.due("one that is the 199th", 198, Checks.work(x,
            "again 39[hour;hour;hour;hour;hour;];hour;hour;again 1[hour;hour;];hour;"));
    }

    private static void t2_sixAgainsOpenAreDone() {
        AlarmRule x = new AlarmRule();
        Checks.due("2 to the 6th", 64, Checks.work(x, "again 2[".repeat(6) + "hour;" + "];".repeat(6)));
        Checks.due("hour 16", 16, x.told(2));
        Checks.due("day 2", 2, x.told(3));
    }

    private static void t2_setIsRefusedIfItIs() {
        stepRefused(Edges.TRIO, "set 0 5;", "set 0 5");
        stepRefused(Edges.TRIO, "set 0 0;", "set 0 0");
        stepRefused(Edges.TRIO, "set 2 23;", "set 2 23");
        stepDone(Edges.TRIO, "set 0 5;", "set 0 6");
        stepDone(Edges.TRIO, "set 0 5;", "set 1 5");
        stepDone(Edges.TRIO, "set 0 5;let 0;", "set 0 5");
        stepDone(Edges.TRIO, "", "set 0 0");
    }

    private static void t2_letIsRefusedIfItIs() {
        stepRefused(Edges.TRIO, "", "let 0");
        stepRefused(Edges.TRIO, "set 0 0;let 0;", "let 0");
        stepRefused(Edges.TRIO, "set 0 0;", "let 1");
        stepDone(Edges.TRIO, "set 0 0;", "let 0");
        stepDone(Edges.TRIO, "set 2 23;", "let 2");
    }

    private static void t2_windIs5More20AtMost() {
        int[] before = {0, 1, 14, 15, 16, 19};
        int[] behind = {5, 6, 19, 20, 20, 20};
        for (int i = 0; i < before.length; i++) {
            AlarmRule x = Checks.with("clock 1 " + before[i] + ";");
            Checks.due("wind at " + before[i], 1, Checks.work(x, "wind 0;"));
            Checks.due("spring behind " + before[i], behind[i], x.clock(0, 1));
        }
    }

    private static void t2_windIsRefusedAt20() {
        stepRefused("sleeper 1 1;clock 1 20;", "", "wind 0");
        stepRefused("sleeper 1 1;clock 1 19;", "wind 0;", "wind 0");
        stepDone("sleeper 1 1;clock 1 19;", "", "wind 0");
        stepDone("sleeper 1 1;clock 1 20;", "set 0 0;hour;", "wind 0");
    }

    private static void t2_sockIsRefusedIfNoneIsLeft() {
        stepRefused("sleeper 1 1;clock 1 1;socks 0;", "", "sock 0");
        stepRefused("sleeper 1 1;clock 1 1;clock 1 1;socks 1;", "sock 1;", "sock 0");
        stepDone("sleeper 1 1;clock 1 1;clock 1 1;socks 1;", "sock 1;sock 1;", "sock 0");
        stepDone("sleeper 1 1;clock 1 1;clock 1 1;socks 2;", "sock 1;", "sock 0");
    }

    private static void t2_sockIsOutAgain() {
        AlarmRule x = Checks.with("clock 1 1;clock 1 1;socks 1;", "sock 0;");
        Checks.due("none is left", 0, x.told(8));
        Checks.due("out again, though none is left", 1, Checks.work(x, "sock 0;"));
        Checks.due("it is left", 1, x.told(8));
        Checks.due("none in any", 0, x.told(7));
        AlarmRule y = Checks.with("clock 1 1;".repeat(6) + "socks 9;", "sock 0;sock 1;sock 2;sock 3;sock 4;sock 5;");
        Checks.due("one in each", 63, y.told(7));
        Checks.due("three are left", 3, y.told(8));
        Checks.work(y, "sock 0;sock 1;sock 2;sock 3;sock 4;sock 5;");
        Checks.due("nine are left", 9, y.told(8));
    }

    private static void t2_moveIsRefusedIfItIs() {
        stepRefused(Edges.TRIO, "", "move 0 0 2");
        stepRefused(Edges.TRIO, "", "move 2 2 0");
        stepRefused(Edges.TRIO, "move 2 1 9;", "move 2 1 9");
        stepDone(Edges.TRIO, "", "move 0 0 0");
        stepDone(Edges.TRIO, "", "move 0 0 9");
        stepDone(Edges.TRIO, "", "move 2 2 1");
    }

    private static void t2_snoozeIsRefusedElse() {
        stepRefused(Edges.TRIO, "", "snooze 2");
        stepRefused(Edges.TRIO, "set 0 0;hour;snooze 2;", "snooze 2");
        stepRefused(Edges.TRIO, "set 0 0;hour;", "snooze 0");
        stepRefused(Edges.TRIO, "set 0 0;again 24[hour;];", "snooze 2");
        stepDone(Edges.TRIO, "set 0 0;hour;", "snooze 2");
        stepDone(Edges.TRIO, "set 0 0;again 23[hour;];", "snooze 2");
    }

    private static void t2_hourIsRefusedInHour23OfDay300() {
        AlarmRule x = Checks.with(Edges.TRIO, "set 0 23;");
        Edges.moveTo(x, 300, 22);
        Checks.due("hour 22 goes by, 23 does not", 1, Checks.work(x, "hour;hour;hour;"));
        Checks.due("both are refused", 2, x.told(11));
        Checks.due("it is hour 23", 23, x.told(2));
        Checks.due("of day 300", 300, x.told(3));
        Checks.due("nothing rang", 6, x.told(9));
        Checks.due("nobody woke", 0, x.told(4));
        Checks.due("other steps are done", 3, Checks.work(x, "wind 0;hour;let 0;hour;sock 0;"));
        Checks.due("the hours are refused", 2, x.told(11));
    }

    private static void t2_hourGoesByInHour23OfDay299() {
        AlarmRule x = Checks.with(Edges.TRIO, "set 0 23;");
        Edges.moveTo(x, 299, 23);
        Checks.due("it goes by", 1, Checks.work(x, "hour;"));
        Checks.due("hour 0", 0, x.told(2));
        Checks.due("of day 300", 300, x.told(3));
        Checks.due("it rang", 5, x.told(9));
        Checks.due("who was first", 1, x.sleeper(2, 4));
        Checks.due("hour 0 of day 300, too", 1, Checks.work(x, "hour;"));
    }

    private static void t2_clocksOfThisHourRing() {
        AlarmRule x = Checks.with(Edges.TRIO, "set 0 1;set 1 2;hour;");
        Checks.due("none in hour 0", 6, x.told(9));
        Checks.work(x, "hour;");
        Checks.due("one in hour 1", 3, x.clock(0, 1));
        Checks.due("not the other", 2, x.clock(1, 1));
        Checks.work(x, "again 24[hour;];");
        Checks.due("of each day", 2, x.clock(0, 1));
    }

    private static void t2_clocksWithoutASpringDoNotRing() {
        AlarmRule x = Checks.with("sleeper 10 1;clock 10 1;clock 10 0;", "set 1 0;set 0 1;hour;");
        Checks.due("no spring: nobody wakes", 0, x.told(4));
        Checks.due("nor is it less", 0, x.clock(1, 1));
        Checks.work(x, "hour;");
        Checks.due("one spring: it rings", 1, x.told(4));
        Checks.due("none is left", 0, x.clock(0, 1));
        Checks.work(x, "again 24[hour;];");
        Checks.due("the next day it does not", 0, x.told(4));
        Checks.due("it stays set", 1, x.clock(0, 2));
    }

    private static void t2_depthOrMoreTogetherWakes() {
        AlarmRule x = Checks.with("sleeper 19 1;sleeper 20 1;sleeper 21 1;clock 10 1;clock 10 1;", "set 0 0;set 1 0;hour;");
        Checks.due("19 and 20 of 20", 3, x.told(4));
        Checks.due("wakes in this hour", 0, x.sleeper(1, 2));
        Checks.due("21 does not", -1, x.sleeper(2, 2));
    }

    private static void t2_allAsTheHourBegins() {
        // Were the first one's waking to count, the second would hear less; were the spring spent, all would.
        AlarmRule x = Checks.with("sleeper 5 1;sleeper 5 1;sleeper 6 1;clock 1 5;", "set 0 0;");
        Checks.law(x, "spring - awake");
        Checks.work(x, "hour;");
        Checks.due("both wake", 3, x.told(4));
        Checks.due("the spring is 1 less", 4, x.clock(0, 1));
    }

    private static void t2_whoIsAwakeIsNotWokenAnew() {
        AlarmRule x = Checks.with("sleeper 5 1;clock 9 9;", "set 0 0;hour;set 0 1;hour;");
        Checks.due("awake from hour 0 on", 0, x.sleeper(0, 2));
        Checks.work(x, "snooze 0;set 0 2;hour;");
        Checks.due("from hour 2 on, behind a snooze", 2, x.sleeper(0, 2));
    }

    private static void t2_behind23() {
        AlarmRule x = Checks.with("sleeper 5 1;sleeper 50 1;clock 9 9;", "set 0 23;again 23[hour;];");
        Checks.due("hour 23", 23, x.told(2));
        Checks.due("day 0", 0, x.told(3));
        Checks.work(x, "hour;");
        Checks.due("hour 0", 0, x.told(2));
        Checks.due("day 1", 1, x.told(3));
        Checks.due("all sleep", 0, x.told(4));
        Checks.due("who woke in hour 23 was first", 1, x.sleeper(0, 4));
        Checks.due("the other was not", 0, x.sleeper(1, 4));
    }

    private static void t2_nobodyFirstAtTheEndOfADay() {
        AlarmRule x = Checks.with("sleeper 5 1;sleeper 50 1;clock 9 9;", "set 0 0;hour;snooze 0;again 23[hour;];");
        Checks.due("day 1", 1, x.told(3));
        Checks.due("not who snoozed", 0, x.sleeper(0, 4));
        Checks.due("nor another", 0, x.sleeper(1, 4));
    }

    private static void t2_firstIsFromTheLeastHourOn() {
        AlarmRule x = Checks.with("sleeper 9 1;sleeper 5 1;sleeper 9 1;clock 5 9;clock 9 9;");
        Checks.due("nobody", -1, x.told(5));
        Checks.work(x, "set 0 0;set 1 1;hour;hour;");
        Checks.due("hour 0, though 0 is less", 1, x.told(5));
        Checks.work(x, "snooze 1;");
        Checks.due("of alike ones the least", 0, x.told(5));
        Checks.work(x, "snooze 0;");
        Checks.due("who is left", 2, x.told(5));
        Checks.work(x, "set 1 2;hour;");
        Checks.due("awake from hour 1 on, though others woke in hour 0", 2, x.told(5));
    }

    private static void t2_theLastSleeperAndTheLastClock() {
        AlarmRule x = Checks.with("sleeper 60 1;".repeat(6) + "sleeper 1 1;" + "clock 1 0;".repeat(5) + "clock 1 7;",
            "set 5 0;hour;");
        Checks.due("it wakes", 64, x.told(4));
        Checks.due("it is first", 6, x.told(5));
        Checks.due("the spring is spent", 6, x.clock(5, 1));
        Checks.work(x, "snooze 6;set 5 1;hour;snooze 6;set 5 2;hour;again 21[hour;];");
        Checks.due("hour 0", 0, x.told(2));
        Checks.due("day 1", 1, x.told(3));
        Checks.due("springs", 4, x.clock(5, 1));
        for (int s = 0; s < 7; s++) {
            Checks.due("snoozes of " + s, s == 6 ? 2 : 0, x.sleeper(s, 3));
            Checks.due("days of " + s, s == 6 ? 1 : 0, x.sleeper(s, 4));
        }
    }

    private static void t2_eachSleeperHasItsOwnCounts() {
        // In day d sleeper d alone wakes, snoozes d times, and is first at the end.
        AlarmRule x = Checks.with("sleeper 1 1;".repeat(7) + "clock 1 20;");
        Checks.law(x, "1 - least[1, (day - sleeper) * (day - sleeper)]");
        for (int day = 0; day < 7; day++) {
            StringBuilder text = new StringBuilder("wind 0;");
            for (int i = 0; i < day; i++) text.append("set0 ").append(i).append(";hour;snooze").append(day).append(';');
            text.append("set0 ").append(day).append(";again").append(24 - day).append("[hour;];");
            Checks.work(x, text.toString());
        }
        Checks.due("a week", 7, x.told(3));
        for (int s = 0; s < 7; s++) {
            Checks.due("snoozes of " + s, s, x.sleeper(s, 3));
            Checks.due("days of " + s, 1, x.sleeper(s, 4));
        }
    }

    // 3: what is asked.

    private static void t3_askedNothingStaysChanged() {
        for (AlarmRule x : new AlarmRule[] {new AlarmRule(), Edges.busy()}) {
            int told = x.told(11);
            int fault = x.fault();
            java.util.List<String> first = Portrait.of(x);
            Checks.due("asked twice", 1, first.equals(Portrait.of(x)) ? 1 : 0);
            Checks.due("told 11", told, x.told(11));
            Checks.due("fault", fault, x.fault());
        }
    }

    private static void t3_hoursGoByBeyondDay300() {
        AlarmRule x = Checks.with("sleeper 5 1;clock 9 9;", "set 0 0;");
        Checks.law(x, "(day - 300) * 5");
        Edges.moveTo(x, 300, 23);
        Checks.due("hour 23 of day 300 goes by", 0, x.ahead(1, 0));
        Checks.due("it is day 301 then", 1, x.ahead(2, 0));
        Checks.due("who is first", 0, x.ahead(2, 1));
        Checks.due("springs", 8, x.ahead(2, 2));
        Checks.due("to day 305", 4, x.ahead(99, 2));
        Checks.due("wakes", 2, x.wakes(0));
        Checks.due("lasts", 2, x.lasts(0));
        Checks.due("until", 1, x.until());
        Checks.due("a year: one that is set wakes each day", 1, x.year(1, 9, 0, 0) > 0 ? 1 : 0);
        Checks.due("was first", 0, x.year(1, 9, 0, 2));
        Checks.due("a span", 1, x.span(1, 1, 9, 0, 2, 0));
        Checks.due("it is still hour 23", 23, x.told(2));
        Checks.due("of day 300", 300, x.told(3));
    }

    private static void t3_rungSetOrNotAllWithASpring() {
        AlarmRule x = Checks.with("sleeper 10 1;sleeper 20 1;clock 10 1;clock 10 1;clock 30 0;", "set 0 9;");
        Checks.due("not set", 1, x.rung(2));
        Checks.due("set for another hour", 1, x.rung(1));
        Checks.due("together", 3, x.rung(3));
        Checks.due("without a spring", -1, x.rung(4));
        Checks.due("with one that has none", -1, x.rung(7));
        Checks.due("none", 0, x.rung(0));
        Checks.work(x, "set 0 0;hour;");
        Checks.due("who is awake does not wake", 0, x.rung(2));
    }

    private static void t3_crownFewestThenLeastBits() {
        // Noises to both: 10, 10, 20; 0 wakes by 20, 1 by 10.
        AlarmRule x = Checks.with("sleeper 20 1;sleeper 10 1;clock 10 1;clock 10 1;clock 20 1;");
        Checks.due("one, not the lesser bits of two", 4, x.crown(0));
        Checks.due("the least bits of one", 1, x.crown(1));
        AlarmRule y = Checks.with("sleeper 20 1;sleeper 20 1;clock 19 1;clock 1 1;clock 1 1;");
        Checks.due("the least bits of two", 3, y.crown(0));
        Checks.due("none: 0 wakes too", -1, y.crown(1));
        Checks.due("none: too quiet", -1, Checks.with("sleeper 20 1;clock 19 9;").crown(0));
        Checks.due("none: no clocks", -1, Checks.with("sleeper 1 1;").crown(0));
        Checks.due("none: no springs", -1, Checks.with("sleeper 1 1;clock 9 0;").crown(0));
    }

    private static void t3_crownOfAwakeOnes() {
        AlarmRule x = Checks.with("sleeper 10 1;sleeper 20 1;clock 10 9;clock 20 9;", "set 0 0;hour;");
        Checks.due("awake: none", -1, x.crown(0));
        Checks.due("one of a lesser number is awake, and does not wake", 2, x.crown(1));
        Checks.work(x, "snooze 0;");
        Checks.due("it sleeps", 1, x.crown(0));
        Checks.due("and would wake", -1, x.crown(1));
    }

    private static void t3_crownOnlyLesserNumbersMatter() {
        AlarmRule x = Checks.with("sleeper 10 1;sleeper 1 1;sleeper 5 1;clock 10 9;clock 9 9;");
        Checks.due("greater ones may wake", 1, x.crown(0));
        Checks.due("1 without 0", 2, x.crown(1));
        Checks.due("2 never without 1", -1, x.crown(2));
    }

    private static void t3_justFewestThenLeastBits() {
        AlarmRule x = Checks.with("sleeper 20 1;sleeper 10 1;clock 10 1;clock 10 1;clock 20 1;");
        Checks.due("none told", 0, x.just(0));
        Checks.due("the least bits of one", 1, x.just(2));
        Checks.due("one, not the lesser bits of two", 4, x.just(3));
        Checks.due("none without others", -1, x.just(1));
        AlarmRule y = Checks.with("sleeper 20 1;clock 19 1;clock 1 1;clock 1 1;");
        Checks.due("the least bits of two", 3, y.just(1));
        Checks.due("no clocks", -1, Checks.with("sleeper 1 1;").just(1));
        Checks.due("no clocks, none told", 0, Checks.with("sleeper 1 1;").just(0));
    }

    private static void t3_justLooksAtAllSeven() {
        AlarmRule x = Checks.with("sleeper 1 1;sleeper 60 1;sleeper 60 1;sleeper 60 1;sleeper 60 1;sleeper 60 1;sleeper 2 1;"
            + "clock 2 1;clock 1 1;");
        Checks.due("the first alone", 2, x.just(1));
        Checks.due("with the last", 1, x.just(65));
        Checks.due("the last alone", -1, x.just(64));
    }

    private static void t3_eachByOneByItself() {
        AlarmRule x = Checks.with("sleeper 20 1;sleeper 10 1;sleeper 30 1;clock 10 1;clock 10 1;clock 20 1;");
        Checks.due("none told", 0, x.each(0));
        Checks.due("the least bits of one", 1, x.each(2));
        Checks.due("one for both", 4, x.each(3));
        Checks.due("30 by no one alone", -1, x.each(4));
        Checks.due("nor with others", -1, x.each(7));
        AlarmRule y = Checks.with("sleeper 20 1;sleeper 20 1;clock 1 1;clock 1 1;clock 1 1;near 0 0 7;near 1 1 7;near 1 2 7;");
        Checks.due("two, of these the least bits", 3, y.each(3));
        Checks.due("without a spring", -1, Checks.with("sleeper 1 1;clock 9 0;").each(1));
        Checks.work(y, "set 0 0;hour;");
        Checks.due("awake ones do not wake", -1, y.each(1));
        Checks.due("nor with others", -1, y.each(3));
        Checks.due("others do", 2, y.each(2));
    }

    private static void t3_whichByNoLinesAndByAll() {
        AlarmRule x = Checks.with("sleeper 10 1;sleeper 20 1;clock 10 1;clock 10 1;clock 30 0;");
        Checks.due("no lines: all sets with springs", 4, x.which(0));
        Checks.due("the first", 0, x.which(1));
        Checks.due("sure", 0, x.which(2));
        Checks.book(x, "0 1;1 0;");
        Checks.due("two sets", 2, x.which(0));
        Checks.due("the least bits", 1, x.which(1));
        Checks.due("none in both", 0, x.which(2));
        Checks.book(x, "1 1;");
        Checks.due("one set", 1, x.which(0));
        Checks.due("of two", 3, x.which(1));
        Checks.due("both are sure", 3, x.which(2));
        Checks.book(x, "0 0;1 1;");
        Checks.due("no set", 0, x.which(0));
        Checks.due("no first", -1, x.which(1));
        Checks.due("nothing sure", 0, x.which(2));
        Checks.book(x, "0 0;");
        Checks.due("the empty set", 1, x.which(0));
        Checks.due("is the first", 0, x.which(1));
    }

    private static void t3_askFewestAtTheWorstThenTheFirst() {
        // By the four sets 0 wakes three times, 1 and 2 once.
        AlarmRule x = Checks.with("sleeper 10 1;sleeper 20 1;sleeper 20 1;clock 10 1;clock 10 1;");
        Checks.due("alike: the first", 0, x.ask(0));
        Checks.due("three at the worst", 3, x.ask(1));
        Checks.book(x, "0 1;");
        Checks.due("in no line", 1, x.ask(0));
        Checks.due("two are left", 2, x.ask(1));
        Checks.book(x, "0 0;1 1;");
        Checks.due("no sets: whom", 2, x.ask(0));
        Checks.due("no sets: none is left", 0, x.ask(1));
        Checks.book(x, "0 1;1 1;2 1;");
        Checks.due("all are in lines", -1, x.ask(0));
        Checks.due("all are in lines: none", -1, x.ask(1));
    }

    private static void t3_swingMoreThanHalf() {
        Checks.due("alone", 1, Checks.with("sleeper 1 1;").swing(0));
        Checks.due("half is not more", 1, Checks.with("sleeper 1 1;sleeper 1 1;").swing(0));
        Checks.due("of 3 and 1: the 3", 2, Checks.with("sleeper 1 3;sleeper 1 1;").swing(0));
        Checks.due("of 3 and 1: the 1", 0, Checks.with("sleeper 1 3;sleeper 1 1;").swing(1));
        // Of 5 half is 2 and a half: 2 is not more, 3 is.
        Checks.due("an odd whole", 2, Checks.with("sleeper 1 2;sleeper 1 2;sleeper 1 1;").swing(2));
        // 9 of 15 in all: 9 by itself, 6 are not more than half.
        AlarmRule x = Checks.with("sleeper 1 1;".repeat(6) + "sleeper 1 9;");
        Checks.due("the last of seven", 64, x.swing(6));
        Checks.due("the first of seven", 0, x.swing(0));
        Checks.due("seven alike", 20, Checks.with("sleeper 1 9;".repeat(7)).swing(6));
        Checks.due("six alike", 10, Checks.with("sleeper 1 9;".repeat(6)).swing(5));
    }

    private static void t3_lastsIn48Hours() {
        AlarmRule x = Checks.with("clock 1 0;clock 1 1;clock 1 2;clock 1 3;clock 1 20;");
        Checks.due("set for none", 0, x.lasts(4));
        Checks.work(x, "set 0 0;set 1 0;set 2 0;set 3 0;set 4 23;");
        int[] due = {0, 1, 2, 2, 2};
        for (int c = 0; c < 5; c++) Checks.due("lasts " + c, due[c], x.lasts(c));
        Checks.work(x, "hour;");
        int[] then = {0, 0, 1, 2, 2};
        for (int c = 0; c < 5; c++) Checks.due("an hour later lasts " + c, then[c], x.lasts(c));
    }

    private static void t3_coupCutsAndRests() {
        AlarmRule x = new AlarmRule();
        Checks.due("9 by 2 is 4", 8, x.coup(9, 0, 2));
        Checks.due("1 by 2 is 0: who is later has no less", 11, x.coup(1, 0, 0));
        Checks.due("of 0 by 0 all rest", 36, x.coup(0, 0, 0));
        Checks.due("the first of all", 0, x.coup(0, 0, 1));
        Checks.due("none rests", 0, x.coup(10, 3, 0));
        Checks.due("no first", -1, x.coup(10, 3, 1));
        Checks.due("0 without", 0, x.coup(10, 3, 2));
        Checks.due("both as late as can be", 55, x.coup(10, 6, 1));
        Checks.due("and no others", 1, x.coup(10, 6, 0));
        Checks.due("as much by another hour is not more", 4, x.coup(10, 5, 0));
        Checks.due("the first of four", 44, x.coup(10, 5, 1));
        Checks.due("has nothing", 0, x.coup(10, 5, 2));
    }

    private static void t3_prophetKOrMore() {
        AlarmRule x = new AlarmRule();
        Checks.due("both of two", 1, x.prophet(2, 2, 8, 0));
        Checks.due("both of two, below", 4, x.prophet(2, 2, 8, 1));
        Checks.due("one of two, or more", 3, x.prophet(2, 1, 8, 0));
        Checks.due("none of two, or more", 1, x.prophet(2, 0, 8, 0));
        Checks.due("none of two, or more, below", 1, x.prophet(2, 0, 8, 1));
        Checks.due("three of two", 0, x.prophet(2, 3, 8, 0));
        Checks.due("three of two, below", 1, x.prophet(2, 3, 8, 1));
    }

    private static void t3_dreamsLevelled() {
        AlarmRule x = Checks.with("sleeper 5 1;sleeper 10 1;sleeper 60 1;");
        int[][] rows = {{0, 0, 0, 0}, {2, 0, 0, 0}, {3, 1, 1, 1}, {5, 1, 1, 1}, {15, 5, 5, 5}, {16, 5, 5, 5},
            {17, 5, 6, 6}, {25, 5, 10, 10}, {26, 5, 10, 11}, {74, 5, 10, 59}, {75, 5, 10, 60}, {76, 5, 10, 60},
            {999, 5, 10, 60}};
        for (int[] row : rows) {
            for (int s = 0; s < 3; s++) Checks.due(s + " of " + row[0], row[1 + s], x.dreams(s, 7, row[0]));
        }
    }

    private static void t3_yearWithoutClocks() {
        AlarmRule x = Checks.with("sleeper 1 1;", "again 23[hour;];");
        int[] due = {0, 0, -1, 0};
        for (int what = 0; what < 4; what++) Checks.due("year " + what, due[what], x.year(1, 30, 16, what));
        for (int what = 0; what < 3; what++) Checks.due("span " + what, 0, x.span(1, 10, 30, 16, what, 0));
    }

    private static void t3_yearDrawnBelowQ() {
        // Q 0: no sock and no wind ever; Q 16: both on each day.
        AlarmRule x = Checks.with("sleeper 60 1;clock 1 0;socks 9;");
        Checks.due("Q 0: no spring", 0, x.year(1, 30, 0, 1));
        Checks.due("Q 0: no sock", 0, x.year(1, 30, 0, 3));
        Checks.due("Q 16: a sock in it behind a day", 1, x.year(1, 1, 16, 3));
        Checks.due("Q 16: out of it behind two", 0, x.year(1, 2, 16, 3));
        Checks.due("Q 16: a sock in it behind 29", 1, x.year(1, 29, 16, 3));
        Checks.due("Q 16: wound, and rang once", 4, x.year(1, 1, 16, 1));
        AlarmRule y = Checks.with("sleeper 60 1;clock 1 20;socks 0;");
        Checks.due("what can't be done is left: no sock", 0, y.year(1, 1, 16, 3));
        Checks.due("what can't be done is left: no wind", 19, y.year(1, 1, 16, 1));
    }

    /** What is DRAWN behind so many draws, in longs. */
    private static int drawn(int seed, int draws, int by) {
        long s = seed & 0xffffffffL;
        for (int i = 0; i < draws; i++) s = s * 1103515245L + 12345L & 0xffffffffL;
        return (int) ((s >> 16 & 0x7fff) % by);
    }

    private static void t3_yearSeedsWrap() {
        int[] seeds = {Integer.MIN_VALUE, Integer.MIN_VALUE + 1, -65536, -1, 0, 1, 65535, 65536, Integer.MAX_VALUE};
        for (int seed : seeds) yearIsDrawnBy(seed);
        for (int seed = 2; seed < 30; seed++) yearIsDrawnBy(seed * 77777777);
    }

    private static void yearIsDrawnBy(int seed) {
        int[] depths = {1, 4, 8, 12, 16, 20, 23};
        int clock = drawn(seed, 1, 6);
        int hour = drawn(seed, 2, 24);
        int wakings = 0;
        StringBuilder text = new StringBuilder();
        for (int depth : depths) {
            wakings += depth <= hour ? 1 : 0;
            text.append("sleeper ").append(depth).append(" 1;");
        }
        for (int c = 0; c < 6; c++) text.append("clock ").append(c + 1).append(c % 2 == 0 ? " 3;" : " 15;");
        AlarmRule x = Checks.with(text.toString());
        Checks.law(x, "hour");
        Checks.due("who hears the hour, by " + seed, wakings, x.year(seed, 1, 0, 0));
        Checks.due("who is first, by " + seed, wakings > 0 ? 0 : -1, x.year(seed, 1, 0, 2));
        for (int q = 0; q <= 16; q++) {
            boolean sock = drawn(seed, 3, 16) < q;
            boolean wound = drawn(seed, 4, 16) < q;
            Checks.due("a sock by " + seed + " below " + q, sock ? 1 << clock : 0, x.year(seed, 1, q, 3));
            Checks.due("springs by " + seed + " below " + q, 54 - 1 + (wound ? 5 : 0), x.year(seed, 1, q, 1));
        }
        int second = drawn(seed, 6, 24);
        int again = 0;
        for (int depth : depths) again += depth <= second ? 1 : 0;
        if (drawn(seed, 5, 6) == clock) Checks.due("two days by " + seed, wakings + again, x.year(seed, 2, 0, 0));
    }

    private static void t3_yearBeginsInThisHour() {
        // From hour 23 on a day's 24 hours end in hour 23 of the next: its first hour alone ends a day.
        AlarmRule x = Checks.with("sleeper 1 1;clock 1 20;", "again 23[hour;];");
        Checks.law(x, "99");
        Checks.due("one waking", 1, x.year(1, 1, 0, 0));
        Checks.due("not at the end of a day", -1, x.year(1, 1, 0, 2));
        Checks.due("in two days it was", 0, x.year(1, 2, 0, 2));
    }
}
