/** Promises 1 to 8: the tape, the four kinds of text with their faults, and what is undone. */
public final class TextsTest {
    private static final String PAIR = "sleeper 10 2;sleeper 20 3;clock 10 5;clock 12 1;near 1 0 4;";

    public static void main(String[] args) {
        newObject();
        feed();
        republic();
        republicFaults();
        republicBegins();
        law();
        lawFaults();
        work();
        workSteps();
        workLimits();
        workFaults();
        hours();
        book();
        fault();
        undo();
        Checks.end("TextsTest");
    }

    private static void newObject() {
        AlarmRule x = new AlarmRule();
        int[] told = {0, 0, 0, 0, 0, -1, 0, 0, 2, 0, 0, 0};
        for (int what = 0; what < told.length; what++) Checks.due("new told " + what, told[what], x.told(what));
        Checks.due("new fault", -1, x.fault());
        Checks.due("new law", 22, x.would(10, 4, 1, 0, 0, 0, 0, 0, 0));
        for (int what = 0; what < 3; what++) Checks.due("new count " + what, 0, x.count(what));
        for (int what = 0; what < 2; what++) Checks.due("new status " + what, 0, x.status(what));
    }

    private static void feed() {
        AlarmRule x = new AlarmRule();
        for (int i = 1; i <= 30; i++) Checks.due("feed " + i, 20 * i, x.feed(0x736f636b, 0x7320393b, 0, 0, 0));
        Checks.due("feed too much", -1, x.feed(1, 2, 3, 4, 5));
        Checks.due("it stays", 600, x.count(1));
        Checks.due("highest byte first", 0, x.republic(8));
        Checks.due("the socks", 9, x.told(8));
        Checks.due("empty then", 0, x.count(1));
        x.feed(0x20202020, 0x20202020, 0x20202020, 0x20202020, 0x20202020);
        x.feed(0xff202020, 0, 0, 0, 0);
        Checks.due("a byte above 127", -9, x.republic(21));
        Checks.due("its place", 20, x.fault());
        x.feed(0x20202020, 0x20202020, 0x20202020, 0x20202020, 0x20202020);
        Checks.due("blanks alone", 0, x.republic(20));
        x.feed(0x73202020, 0x20202020, 0x6f636b73, 0x20313b20, 0x20202020);
        Checks.due("the first bytes of the tape", -9, x.republic(1));
    }

    private static void republic() {
        AlarmRule x = new AlarmRule();
        Checks.due("republic", 2, Checks.republic(x, PAIR));
        Checks.due("sleepers", 2, x.told(0));
        Checks.due("clocks", 2, x.told(1));
        Checks.illegal("below 0", () -> x.republic(-1));
        Checks.illegal("above the tape", () -> x.republic(1));
        Checks.feed(x, "socks 3;");
        Checks.illegal("above the tape too", () -> x.republic(21));
        Checks.due("the tape stays", 20, x.count(1));
        Checks.due("all stays", 2, x.told(0));
        Checks.due("nothing at all", 0, Checks.republic(x, ""));
        Checks.due("no sleepers", 0, x.told(0));
        Checks.due("edges", 2, Checks.republic(x, "sleeper1 1;  sleeper 060 09 ; clock 30 20;clock 1 0;near 1 1 9;"
            + "near 1 1 0;near 0 1 3;socks 9;socks 0; "));
        Checks.due("depth 1", 1, x.sleeper(0, 0));
        Checks.due("depth 60", 60, x.sleeper(1, 0));
        Checks.due("votes 9", 9, x.sleeper(1, 1));
        Checks.due("the last near", 0, x.near(1, 1));
        Checks.due("another near", 3, x.near(0, 1));
        Checks.due("near without", 0, x.near(0, 0));
        Checks.due("the last socks", 0, x.told(8));
        Checks.due("socks without", 2, Checks.with("sleeper 1 1;").told(8));
        Checks.due("60 clauses", 0, Checks.republic(x, "socks 1;".repeat(60)));
        Checks.due("7 and 6", 7, Checks.republic(x, "sleeper 1 1;".repeat(7) + "clock 1 1;".repeat(6)));
    }

    private static void republicFault(String text, int kind, int place) {
        AlarmRule x = Checks.with(PAIR);
        Checks.due(text, kind - 10, Checks.republic(x, text));
        Checks.due(text + ": place", place, x.fault());
        Checks.due(text + ": all stays", 2, x.told(0));
        Checks.due(text + ": all stays, clocks too", 10, x.clock(0, 0));
        Checks.due(text + ": the tape is empty", 0, x.count(1));
    }

    private static void republicFaults() {
        republicFault("sleeper", 1, 7);
        republicFault("sleeper 1 1  ", 1, 13);
        republicFault("sleeper 1 1;;", 1, 12);
        republicFault("Sleeper 1 1;", 1, 0);
        republicFault("  sleepers 1 1;", 1, 2);
        republicFault("sleep 1 1;", 1, 0);
        republicFault("1 sleeper", 1, 0);
        republicFault("sleeper x 1;", 1, 8);
        republicFault("sleeper 1\t1;", 1, 9);
        republicFault("sleeper 1 1 1;", 1, 12);
        republicFault("sleeper 0 1;", 2, 8);
        republicFault("sleeper 61 x", 2, 8);
        republicFault("sleeper 99999999999999999999 1;", 2, 8);
        republicFault("sleeper 4294967297 1;", 2, 8);
        republicFault("sleeper 1 0;", 2, 10);
        republicFault("sleeper 1  10;", 2, 11);
        republicFault("clock 0 1;", 2, 6);
        republicFault("clock 31 1;", 2, 6);
        republicFault("clock 1 21;", 2, 8);
        republicFault("near 0 0 1;", 2, 5);
        republicFault("clock 1 1;near 0 0 1;", 2, 15);
        republicFault("sleeper 1 1;near 0 0 1;", 2, 19);
        republicFault("sleeper 1 1;clock 1 1;near 0 0 10;", 2, 31);
        republicFault("sleeper 1 1;clock 1 1;near 1 0 1;", 2, 27);
        republicFault("socks 10;", 2, 6);
        republicFault("sleeper 1 1;".repeat(7) + "sleeper 0 0", 3, 84);
        republicFault("clock 1 1;".repeat(6) + " clock", 3, 61);
        republicFault("socks 1;".repeat(60) + "socks 1;", 3, 480);
        republicFault("socks 1;".repeat(60) + "sock 1;", 1, 480);
        republicFault("socks 1;".repeat(60) + ";", 1, 480);
    }

    private static void republicBegins() {
        AlarmRule x = Checks.with(PAIR, "hour;let 0;");
        Checks.due("refused", 1, x.told(11));
        Checks.law(x, "99");
        Checks.book(x, "0 1;");
        x.image();
        Checks.illegal("one more", () -> x.told(-1));
        Checks.republic(x, PAIR);
        Checks.due("hour 0", 0, x.told(2));
        Checks.due("no law", 10, x.noise(0, 0));
        Checks.due("no book", 0, x.told(10));
        Checks.due("no images", 0, x.count(0));
        Checks.due("nothing to undo", 0, x.count(2));
        Checks.due("undo", -1, x.undo());
        Checks.due("none refused", 0, x.told(11));
        Checks.due("status stays", 1, x.status(1));
        Checks.republic(x, "socks 7;" + PAIR + "sleeper 1 9;");
        Checks.republic(x, "sleeper 9 1;sleeper 9 1;clock 3 2;");
        Checks.due("votes of the former one are gone", 1, x.swing(0));
        Checks.due("its springs", 2, x.told(9));
        Checks.due("how near it was", 0, x.near(1, 0));
        Checks.due("its socks", 2, x.told(8));
        Checks.due("its clocks", 1, x.told(1));
    }

    private static void lawIs(String text, int value) {
        AlarmRule x = new AlarmRule();
        Checks.due(text, 1, Checks.law(x, text));
        Checks.due(text + ": no fault", -1, x.fault());
        Checks.due(text + ": value", value, x.would(11, 7, 13, 1, 17, 19, 3, 20, 5));
    }

    private static void law() {
        lawIs("loud", 11);
        lawIs("near", 7);
        lawIs("depth", 13);
        lawIs("sock", 1);
        lawIs("hour", 17);
        lawIs("day", 19);
        lawIs("awake", 3);
        lawIs("spring", 20);
        lawIs("sleeper", 5);
        lawIs(" 0 ", 0);
        lawIs("00099", 99);
        lawIs("100", 99);
        lawIs("0-1", 0);
        lawIs("20-3-4", 13);
        lawIs("2+3*4", 14);
        lawIs("(2+3)*4", 20);
        lawIs("90/4/5", 4);
        lawIs("90/(4/5)", 0);
        lawIs("7*3%4", 1);
        lawIs("(0-7)/2+50", 47);
        lawIs("(0-7)%4+50", 47);
        lawIs("7%(0-4)", 3);
        lawIs("7/0+5%0+4", 4);
        lawIs("least[3,9]*10+most[3,9]", 39);
        lawIs("least [ 9 , 3 ] + most[0-5,0-6]+10", 8);
        lawIs("999*999*999*999", 0);
        // 256 to the fourth wraps to 0; one less wraps to below 0.
        lawIs("256*256*256*256+5", 5);
        lawIs("256*256*256*128-1-256*256*256*127+1-256*256*255*256", 99);
        lawIs("(((((( loud ))))))", 11);
        lawIs("least[most[(least[most[(1),2],3]),4],5]", 4);
        lawIs("(((((1)))))+((((((2))))))", 3);
        lawIs("((((least[1,most[2,3]]))))", 1);
        AlarmRule x = Checks.with(PAIR);
        Checks.law(x, "50");
        Checks.illegal("law of 151", () -> {
            Checks.feed(x, " ".repeat(160));
            return x.law(151);
        });
        Checks.due("the tape stays", 160, x.count(1));
        Checks.due("of 150", -9, x.law(150));
        Checks.due("at the length", 150, x.fault());
        Checks.due("the law stays", 50, x.noise(0, 0));
        Checks.illegal("law below 0", () -> x.law(-1));
        Checks.illegal("law above the tape", () -> x.law(1));
        Checks.due("149 blanks and a number", 1, Checks.law(x, " ".repeat(149) + "7"));
        Checks.due("the law", 7, x.noise(0, 0));
        Checks.feed(x, "123456loud");
        Checks.due("digits behind the text", 1, x.law(2));
        Checks.due("do not count", 12, x.noise(0, 0));
        Checks.feed(x, "loudness");
        Checks.due("nor letters", 1, x.law(4));
        Checks.due("so loud", 12, x.noise(0, 1));
        Checks.due("75 numbers", 1, Checks.law(x, "1+".repeat(74) + "1"));
        Checks.due("their sum", 75, x.noise(0, 0));
    }

    private static void lawFault(String text, int kind, int place) {
        AlarmRule x = new AlarmRule();
        Checks.law(x, "77");
        Checks.due(text, kind - 10, Checks.law(x, text));
        Checks.due(text + ": place", place, x.fault());
        Checks.due(text + ": the law stays", 77, x.would(11, 7, 13, 1, 17, 19, 3, 20, 5));
        Checks.due(text + ": the tape is empty", 0, x.count(1));
    }

    private static void lawFaults() {
        lawFault("", 1, 0);
        lawFault("  ", 1, 2);
        lawFault("lou", 1, 0);
        lawFault("loudnear", 1, 0);
        lawFault("loud2", 1, 4);
        lawFault("2loud", 1, 1);
        lawFault("1 2", 1, 2);
        lawFault("1 1000", 1, 2);
        lawFault("-1", 1, 0);
        lawFault("1+", 1, 2);
        lawFault("1+*2", 1, 2);
        lawFault("(1", 1, 2);
        lawFault("(1]", 1, 2);
        lawFault("()", 1, 1);
        lawFault("1)", 1, 1);
        lawFault("least(1,2)", 1, 5);
        lawFault("least[1]", 1, 7);
        lawFault("least[1,2)", 1, 9);
        lawFault("most[1,2,3]", 1, 8);
        lawFault("1000+x", 2, 0);
        lawFault("1+ 1000", 2, 3);
        lawFault("1+00000000000000000000000000001000", 2, 2);
        lawFault("((((((( 1", 3, 6);
        lawFault("((((((least", 3, 6);
        lawFault("((((((mos", 1, 6);
        lawFault("least[most[least[most[least[most[1,(2)]", 3, 35);
        lawFault("(1)+((((((1))))))*(((((( (", 3, 25);
    }

    private static void work() {
        AlarmRule x = Checks.with(PAIR);
        Checks.due("nothing", 0, Checks.work(x, ""));
        Checks.due("is a work", 1, x.count(2));
        Checks.due("two done, one refused", 2, Checks.work(x, " set 0 6 ; set 0 6 ; hour ; "));
        Checks.due("refused", 1, x.told(11));
        Checks.due("agains not counted", 6, Checks.work(x, "again 2 [again 3 [hour;];];again 0 [hour;];"));
        Checks.due("none refused", 0, x.told(11));
        Checks.due("seven hours", 7, x.told(2));
        Checks.illegal("work of 151", () -> {
            Checks.feed(x, " ".repeat(160));
            return x.work(151);
        });
        Checks.due("of 150 blanks", 0, x.work(150));
        Checks.illegal("work below 0", () -> x.work(-1));
        Checks.illegal("work above the tape", () -> x.work(1));
        for (int i = x.count(2); i < 16; i++) Checks.due("work " + i, 0, Checks.work(x, "let 1;"));
        Checks.work(x, "foo");
        Checks.due("no fault ahead of -20", -1, x.fault());
        Checks.feed(x, "hour;");
        Checks.illegal("n ahead of -20", () -> x.work(21));
        Checks.due("the 17th", -20, x.work(5));
        Checks.due("the tape is empty", 0, x.count(1));
        Checks.due("nothing was done", 7, x.told(2));
        Checks.due("refused stays", 1, x.told(11));
        Checks.due("undone", 15, x.undo());
        Checks.due("there is room", 1, Checks.work(x, "hour;"));
    }

    private static void workSteps() {
        AlarmRule x = Checks.with(PAIR + "socks 1;");
        Checks.due("set", 3, Checks.work(x, "set 0 0;set 0 23;set 0 23;set 1 0;"));
        Checks.due("of another hour", 23, x.clock(0, 2));
        Checks.due("let", 1, Checks.work(x, "let 0;let 0;"));
        Checks.due("set for none", -1, x.clock(0, 2));
        Checks.due("wind", 4, Checks.work(x, "wind 1;wind 1;wind 1;wind 1;wind 1;"));
        Checks.due("20 at most", 20, x.clock(1, 1));
        Checks.due("refused at 20", 1, x.told(11));
        Checks.due("sock", 1, Checks.work(x, "sock 0;sock 1;"));
        Checks.due("in it", 1, x.clock(0, 3));
        Checks.due("none in the other", 0, x.clock(1, 3));
        Checks.due("none left", 0, x.told(8));
        Checks.due("out again", 2, Checks.work(x, "sock 0;sock 1;"));
        Checks.due("in the other", 2, x.told(7));
        Checks.due("out of both", 1, Checks.work(x, "sock 1;"));
        Checks.due("one is left", 1, x.told(8));
        Checks.due("move", 2, Checks.work(x, "move 0 1 4;move 0 1 9;move 0 1 9;move 1 0 3;"));
        Checks.due("moved", 9, x.near(1, 0));
        Checks.due("moved too", 3, x.near(0, 1));
        Checks.due("not near at all", 2, Checks.work(x, "move 0 1 0;move 0 1 0;move 0 1 9;"));
        Checks.due("snooze of one who sleeps", 0, Checks.work(x, "snooze 0;"));
        Checks.due("hour wakes", 1, Checks.work(x, "hour;"));
        Checks.due("who woke", 1, x.told(4));
        Checks.due("snooze", 1, Checks.work(x, "snooze 0;snooze 0;"));
        Checks.due("sleeps", 0, x.told(4));
        Checks.due("snoozed", 1, x.sleeper(0, 3));
    }

    private static void workLimits() {
        AlarmRule x = Checks.with(PAIR);
        // One again, three of 61 steps, one of 16: five agains, and 195 hours.
        Checks.due("200 begun", 195, Checks.work(x, "again 60 [again 60 [hour;];];hour;"));
        Checks.due("195 hours", 195 % 24, x.told(2));
        Checks.due("their days", 195 / 24, x.told(3));
        Checks.due("refused ones too", 0, Checks.work(x, "again 60 [let 0;let 0;let 0;let 0;];hour;"));
        Checks.due("199 refused", 199, x.told(11));
        Checks.due("agains too", 0, Checks.work(x, "again 60 [again 60 [again 60 [];];];hour;"));
        Checks.due("the last one", 1, Checks.work(x, "again 60 [again 0 [];again 0 [];again 0 [];];"
            + "again 17 [let 0;];hour;hour;"));
        Checks.due("those refused", 17, x.told(11));
        Checks.due("all but the 200th", 199, Checks.work(x, "again 50 [hour;hour;hour;hour;];"));
        Checks.due("six open", 64, Checks.work(x, "again 2[again 2[again 2[again 2[again 2[again 2[hour;];];];];];];"));
    }

    private static void workFault(String text, int kind, int place) {
        AlarmRule x = Checks.with(PAIR, "hour;let 0;");
        Checks.due(text, kind - 10, Checks.work(x, text));
        Checks.due(text + ": place", place, x.fault());
        Checks.due(text + ": none is done", 1, x.told(2));
        Checks.due(text + ": refused stay", 1, x.told(11));
        Checks.due(text + ": no work", 1, x.count(2));
        Checks.due(text + ": the tape is empty", 0, x.count(1));
    }

    private static void workFaults() {
        workFault("hour", 1, 4);
        workFault("hour;hour ", 1, 10);
        workFault("hour;;", 1, 5);
        workFault("hour;hours;", 1, 5);
        workFault("hour;sockk 0;", 1, 5);
        workFault("hour 1;", 1, 5);
        workFault("];", 1, 0);
        workFault("again 1 []", 1, 10);
        workFault("again 1 hour;", 1, 8);
        workFault("again 1 [hour];", 1, 13);
        workFault("again 1 [hour;", 1, 14);
        workFault("again 1 [hour;;];", 1, 14);
        workFault("again [hour;];", 1, 6);
        workFault("set 0;", 1, 5);
        workFault("set x 1;", 1, 4);
        workFault("let 0 1;", 1, 6);
        workFault("move 0 0;", 1, 8);
        workFault("set 2 0;", 2, 4);
        workFault("set 0 24;", 2, 6);
        workFault("let 2;", 2, 4);
        workFault("wind 2;", 2, 5);
        workFault("sock 2;", 2, 5);
        workFault("move 2 0 0;", 2, 5);
        workFault("move 0 2 0;", 2, 7);
        workFault("move 0 0 10;", 2, 9);
        workFault("snooze 2;", 2, 7);
        workFault("again 61 [];", 2, 6);
        workFault("again 1[".repeat(6) + "again", 3, 48);
        workFault("again 1[".repeat(6) + "agai", 1, 48);
        AlarmRule none = new AlarmRule();
        Checks.due("no clock is told", -8, Checks.work(none, "wind 0;"));
        Checks.due("nor a sleeper", -8, Checks.work(none, "snooze 0;"));
        Checks.due("an hour can go by", 1, Checks.work(none, "hour;"));
        Checks.due("six, closed, six again", 0, Checks.work(none,
            ("again 0[".repeat(6) + "];".repeat(6)).repeat(2)));
    }

    private static void hours() {
        // Noises 8 and 5 wake who sleeps at depth 13 together, and by as much only.
        AlarmRule x = Checks.with("sleeper 13 1;sleeper 14 1;sleeper 8 1;clock 8 2;clock 5 1;clock 30 0;");
        Checks.work(x, "set 0 0;set 1 0;set 2 0;hour;");
        Checks.due("who wakes", 5, x.told(4));
        Checks.due("springs", 1, x.told(9));
        Checks.due("no spring, no ring", 0, x.clock(2, 1));
        Checks.due("first of alike ones", 0, x.told(5));
        Checks.work(x, "snooze 0;again 22 [hour;];");
        Checks.due("then another", 2, x.told(5));
        Checks.due("hour 23", 23, x.told(2));
        Checks.work(x, "hour;");
        Checks.due("day 1", 1, x.told(3));
        Checks.due("all sleep", 0, x.told(4));
        Checks.due("was first", 1, x.sleeper(2, 4));
        Checks.due("was not", 0, x.sleeper(0, 4));
        Checks.due("snoozes stay", 1, x.sleeper(0, 3));
        Checks.work(x, "let 0;set 0 23;again 24[hour;];");
        Checks.due("woken in the last hour", 2, x.sleeper(2, 4));
        // By all as the hour begins: nobody is awake yet, and springs are as they were.
        AlarmRule y = Checks.with("sleeper 4 1;sleeper 6 1;sleeper 5 1;clock 1 4;clock 1 1;");
        Checks.law(y, "spring - awake * 3");
        Checks.work(y, "set 0 0;set 1 0;hour;");
        Checks.due("together 5 for all", 5, y.told(4));
        Checks.work(y, "set 0 1;set 1 1;wind 1;hour;");
        Checks.due("two awake take 6 of each", 5, y.told(4));
        Checks.due("it rang all the same", 2 + 4, y.told(9));
    }

    private static void book() {
        AlarmRule x = Checks.with(PAIR);
        Checks.due("two lines", 2, Checks.book(x, " 1 0 ; 00 1; "));
        Checks.due("no fault", -1, x.fault());
        String[] faults = {"0", "0 1", "0 1;0", "0 1; 0 1;", "2 1;", "0 2;", "x", "0 1;;", "0;", "0 1 1;", "0 1;1 0;1 1;"};
        int[] kinds = {1, 1, 2, 2, 2, 2, 1, 1, 1, 1, 2};
        int[] places = {1, 3, 4, 5, 0, 2, 0, 4, 1, 4, 8};
        for (int i = 0; i < faults.length; i++) {
            Checks.due("book " + faults[i], kinds[i] - 10, Checks.book(x, faults[i]));
            Checks.due("book " + faults[i] + ": place", places[i], x.fault());
            Checks.due("book " + faults[i] + ": it stays", 2, x.told(10));
        }
        Checks.due("that of one line", 1, Checks.book(x, "1 1;"));
        Checks.due("is another", 1, x.told(10));
        Checks.due("none", 0, Checks.book(x, ""));
        Checks.due("is told", 0, x.told(10));
        Checks.illegal("book of 61", () -> {
            Checks.feed(x, " ".repeat(80));
            return x.book(61);
        });
        Checks.due("book of 60", 0, x.book(60));
        Checks.illegal("book below 0", () -> x.book(-1));
        Checks.illegal("book above the tape", () -> x.book(1));
        Checks.due("without sleepers", -8, Checks.book(new AlarmRule(), "0 1;"));
    }

    private static void fault() {
        AlarmRule x = new AlarmRule();
        Checks.law(x, "1 1");
        Checks.due("of the latest", 2, x.fault());
        Checks.illegal("no text", () -> x.law(9));
        Checks.due("stays", 2, x.fault());
        Checks.law(x, "1");
        Checks.due("none", -1, x.fault());
    }

    private static void undo() {
        AlarmRule x = Checks.with(PAIR);
        Checks.due("nothing", -1, x.undo());
        Checks.work(x, "set 0 0;sock 0;move 0 0 7;wind 1;hour;");
        Checks.law(x, "20");
        Checks.book(x, "1 1;");
        Checks.work(x, "hour;set 0 2;let 1;hour;snooze 0;snooze 1;again 23[hour;];");
        Checks.due("snoozed", 1, x.sleeper(1, 3));
        Checks.due("one is left", 1, x.undo());
        Checks.due("the hour", 1, x.told(2));
        Checks.due("the day", 0, x.told(3));
        Checks.due("refused", 0, x.told(11));
        Checks.due("not snoozed", 0, x.sleeper(1, 3));
        Checks.due("set as it was", 0, x.clock(0, 2));
        Checks.due("none left", 0, x.undo());
        Checks.due("the near", 0, x.near(0, 0));
        Checks.due("the sock", 0, x.told(7));
        Checks.due("the socks", 2, x.told(8));
        Checks.due("the springs", 6, x.told(9));
        Checks.due("not set", -1, x.clock(0, 2));
        Checks.due("the law stays", 20, x.noise(0, 0));
        Checks.due("the book stays", 1, x.told(10));
        Checks.due("nothing more", -1, x.undo());
    }
}
