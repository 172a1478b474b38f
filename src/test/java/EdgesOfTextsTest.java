/** The boundary cases of promises 1 to 8: a new object, the tape, texts that are read, works undone. */
public final class EdgesOfTextsTest {
    /** hour;hour;hour;hour; */
    private static final int[] HOURS = {0x686f7572, 0x3b686f75, 0x723b686f, 0x75723b68, 0x6f75723b};

    public static void main(String[] args) throws Exception {
        Edges.runAll(EdgesOfTextsTest.class, Edges.promises(1, 8));
    }

    private static int feedHours(AlarmRule x) {
        return x.feed(HOURS[0], HOURS[1], HOURS[2], HOURS[3], HOURS[4]);
    }

    /** Sixteen works that were not undone, an image of twelve of them, a step refused, a fault. */
    private static AlarmRule withManyWorks() {
        AlarmRule x = Checks.with(Edges.TRIO);
        for (int i = 0; i < 16; i++) {
            Checks.work(x, "hour;let 0;");
            if (i == 11) x.image();
        }
        Checks.law(x, "loud +");
        return x;
    }

    // 1

    private static void p01_aRepublicWithoutClauses() {
        AlarmRule x = new AlarmRule();
        AlarmRule twin = Checks.with("");
        Checks.due("fault", -1, x.fault());
        Checks.due("told 11", 0, x.told(11));
        Checks.due("status 0", 0, x.status(0));
        Checks.due("status 1", 0, x.status(1));
        Edges.same("as one of no bytes", twin, x);
    }

    private static void p01_noneAlikeIsShared() {
        AlarmRule one = new AlarmRule();
        AlarmRule other = new AlarmRule();
        Checks.republic(one, Edges.TRIO);
        Checks.work(one, "set 0 0;hour;");
        Checks.due("another object has no sleepers", 0, other.told(0));
        Checks.due("nor an hour gone by", 0, other.told(2));
    }

    private static void p01_the512thCallAnswers() {
        AlarmRule x = new AlarmRule();
        int calls = 0;
        for (; calls < 30; calls++) feedHours(x);
        Checks.due("a work of 25 hours", 25, x.work(125));
        for (calls++; calls < 511; calls++) x.told(2);
        Checks.due("the 512th", 1, x.told(3));
    }

    // 2

    private static void p02_twentyBytesTheHighestFirst() {
        AlarmRule x = new AlarmRule();
        Checks.due("twenty", 20, feedHours(x));
        Checks.due("four hours", 4, x.work(20));
        x.feed(0x736f636b, 0x73202020, 0x20202020, 0x20202020, 0x2020373b);
        Checks.due("the last byte is the lowest of the last", 0, x.republic(20));
        Checks.due("seven socks", 7, x.told(8));
        x.feed(0xffffffff, 0x80000000, 0x7fffffff, -1, 0);
        Checks.due("a byte of 255 is no sign of anything", -9, x.republic(20));
        Checks.due("at the first byte", 0, x.fault());
    }

    private static void p02_600BytesAndNoMore() {
        AlarmRule x = new AlarmRule();
        for (int i = 1; i <= 30; i++) Checks.due("feed " + i, 20 * i, feedHours(x));
        Checks.due("the 31st", -1, x.feed(1, 2, 3, 4, 5));
        Checks.due("the 32nd", -1, x.feed(1, 2, 3, 4, 5));
        Checks.due("600 bytes", 600, x.count(1));
        Checks.due("not a refused call", 0, x.status(0) + x.status(1));
        Checks.due("the first bytes are as they were", 30, x.work(150));
        Checks.due("now there is room", 20, feedHours(x));
    }

    private static AlarmRule withFullTape() {
        AlarmRule x = Edges.busyWithoutTape();
        Checks.feed(x, "loud % 7 + hour" + " ".repeat(585));
        return x;
    }

    private static void p02_noneDoesNothing() {
        Edges.doesNothing(EdgesOfTextsTest::withFullTape, "feed", -1, x -> x.feed(0x31313131, 0, 0, 0, 0));
    }

    private static void p02_580BytesHaveRoom() {
        AlarmRule x = new AlarmRule();
        Checks.feed(x, " ".repeat(580));
        Checks.due("580 bytes", 580, x.count(1));
        Checks.due("the last twenty", 600, x.feed(0x736f636b, 0x7320363b, 0x20202020, 0x20202020, 0x20202020));
        x.republic(600);
        Checks.due("are on the tape", 6, x.told(8));
    }

    // 3

    private static void p03_nFrom0ToTheTapesBytes() {
        Edges.range("republic", 0, 20, (x, n) -> x.republic(n));
        Edges.range(Edges::busyWithoutTape, "republic without a tape", 0, 0, (x, n) -> x.republic(n));
        Edges.range(EdgesOfTextsTest::withFullTape, "republic with a full tape", 0, 600, (x, n) -> x.republic(n));
    }

    private static void p03_theFirstNBytes() {
        AlarmRule x = new AlarmRule();
        Checks.feed(x, "socks 5;socks 6;socks 7;");
        Checks.due("16 of them", 0, x.republic(16));
        Checks.due("tell of six", 6, x.told(8));
        Checks.due("the others are gone", 0, x.count(1));
    }

    private static void p03_nothingIsLeftOfTheFormerOne() {
        AlarmRule x = Edges.busy();
        x.republic(0);
        Checks.due("no fault", -1, x.fault());
        Checks.due("told 11", 0, x.told(11));
        Edges.same("as a new object", new AlarmRule(), x);
        AlarmRule y = Edges.busyWithoutTape();
        Checks.republic(y, Edges.TRIO);
        Edges.same("as the republic at first", Checks.with(Edges.TRIO), y);
    }

    private static void p03_ofOneImageAndOneWork() {
        AlarmRule x = Edges.busyWithoutTape();
        Checks.republic(x, Edges.TRIO);
        Checks.due("nothing to undo", -1, x.undo());
        Checks.due("no images", -1, x.restore());
        Checks.due("no book", 0, x.told(10));
        Checks.due("no law", 12 + 2 * 3, x.noise(0, 0));
    }

    private static void p03_statusStays() {
        AlarmRule x = Edges.busyWithoutTape();
        Checks.noSuch("missing", () -> x.wakes(9));
        Checks.illegal("wrong", () -> x.told(99));
        Checks.republic(x, Edges.TRIO);
        Checks.due("status 0", 1, x.status(0));
        Checks.due("status 1", 1, x.status(1));
    }

    private static void p03_howManySleepers() {
        for (int many = 0; many <= 7; many++) {
            Checks.due(many + " sleepers", many, Checks.republic(new AlarmRule(), "sleeper 1 1;".repeat(many)));
        }
    }

    private static void p03_faultLess10AllStays() {
        Edges.fault(Checks::republic, "sleepy", -9, 0);
        Edges.fault(Checks::republic, "socks 10;", -8, 6);
        Edges.fault(Checks::republic, "sleeper 1 1;".repeat(8), -7, 84);
        Edges.fault(Checks::republic, "socks 5;sleeper 1 1;clock 1 1;near 0 0 9;sleeper", -9, 48);
    }

    // 4

    private static void p04_nFrom0ToTheTapesBytes() {
        Edges.range("law", 0, 20, (x, n) -> x.law(n));
        Edges.range(Edges::busyWithoutTape, "law without a tape", 0, 0, (x, n) -> x.law(n));
    }

    private static void p04_nTo150() {
        Edges.range(EdgesOfTextsTest::withFullTape, "law with a full tape", 0, 150, (x, n) -> x.law(n));
    }

    private static void p04_itAnswers1() {
        AlarmRule x = Edges.busyWithoutTape();
        Checks.due("a law", 1, Checks.law(x, "0"));
        Checks.due("the tape is empty", 0, x.count(1));
        Checks.due("no fault", -1, x.fault());
        Checks.due("it holds", 0, x.noise(0, 0));
    }

    private static void p04_aLawChangesNothingElse() {
        AlarmRule twin = Edges.busyWithoutTape();
        AlarmRule x = Edges.busyWithoutTape();
        Checks.law(x, "99");
        Checks.law(x, "loud + near * 2 - sock * 9 + spring");
        Checks.due("told 11", twin.told(11), x.told(11));
        Edges.same("the same law again", twin, x);
    }

    private static void p04_faultLess10AllStays() {
        Edges.fault(Checks::law, "loudest", -9, 0);
        Edges.fault(Checks::law, "loud + 1000", -8, 7);
        Edges.fault(Checks::law, "(((((((", -7, 6);
    }

    // 5

    private static void p05_nFrom0ToTheTapesBytes() {
        Edges.range("work", 0, 20, (x, n) -> x.work(n));
        Edges.range(Edges::busyWithoutTape, "work without a tape", 0, 0, (x, n) -> x.work(n));
    }

    private static void p05_nTo150() {
        Edges.range(EdgesOfTextsTest::withFullTape, "work with a full tape", 0, 150, (x, n) -> x.work(n));
    }

    private static void p05_howManyStepsWereDone() {
        AlarmRule x = Checks.with(Edges.TRIO);
        Checks.due("none", 0, Checks.work(x, ""));
        Checks.due("refused ones are not counted", 1, Checks.work(x, "let 0;hour;let 1;"));
        Checks.due("they are told", 2, x.told(11));
        Checks.due("agains are not counted", 2, Checks.work(x, "again 1[hour;];again 0[hour;];hour;"));
        Checks.due("nor refused", 0, x.told(11));
    }

    private static void p05_faultLess10NoneIsDone() {
        Edges.fault(Checks::work, "hour;hours;", -9, 5);
        Edges.fault(Checks::work, "hour;let 3;", -8, 9);
        Edges.fault(Checks::work, "hour;" + "again 1[".repeat(7), -7, 53);
    }

    private static void p05_sixteenWorksThenMinus20() {
        AlarmRule x = Checks.with(Edges.TRIO);
        for (int i = 1; i <= 16; i++) {
            Checks.due("work " + i, i % 2, Checks.work(x, i % 2 == 0 ? "let 0;" : "hour;"));
            Checks.due("to be undone", i, x.count(2));
        }
        Checks.due("the 17th", -20, Checks.work(x, "hour;"));
        Checks.due("none more", 16, x.count(2));
        Checks.due("the 18th", -20, Checks.work(x, ""));
        Checks.due("undone", 15, x.undo());
        Checks.due("one can be done", 1, Checks.work(x, "hour;"));
        Checks.due("and no more", -20, Checks.work(x, "hour;"));
    }

    private static void p05_minus20NothingIsReadNoFaultTheTapeIsEmpty() {
        AlarmRule twin = withManyWorks();
        AlarmRule x = withManyWorks();
        Checks.due("there was a fault", 6, x.fault());
        Checks.due("a faulty text", -20, Checks.work(x, "hours;"));
        Checks.due("there is none now", -1, x.fault());
        Checks.due("the tape is empty", 0, x.count(1));
        Checks.due("told 11 stays", twin.told(11), x.told(11));
        Checks.due("no refused call", 0, x.status(0) + x.status(1));
        Edges.same("all else stays", twin, x);
    }

    private static void p05_aWrongNThrowsThoughThereAre16() {
        Edges.range(EdgesOfTextsTest::withManyWorks, "work", 0, 0, (x, n) -> x.work(n));
        AlarmRule x = withManyWorks();
        Checks.feed(x, "hour;");
        Checks.illegal("21 of 20 bytes", () -> x.work(21));
        Checks.due("the tape stays", 20, x.count(1));
        Checks.due("20 of 20 bytes", -20, x.work(20));
    }

    private static void p05_faultyWorksAreNotAmongThe16() {
        AlarmRule x = Checks.with(Edges.TRIO);
        for (int i = 0; i < 20; i++) Checks.due("faulty", -9, Checks.work(x, "hours;"));
        Checks.due("none to undo", 0, x.count(2));
        for (int i = 0; i < 16; i++) Checks.work(x, "hour;");
        Checks.due("-20 ahead of a fault", -20, Checks.work(x, "let 9;"));
        Checks.due("no fault", -1, x.fault());
    }

    private static void p05_anImagesWorksAreCounted() {
        AlarmRule x = withManyWorks();
        Checks.due("back to 12", 0, x.restore());
        Checks.due("12 works", 12, x.count(2));
        for (int i = 13; i <= 16; i++) Checks.due("work " + i, 1, Checks.work(x, "hour;let 0;"));
        Checks.due("the 17th", -20, Checks.work(x, "hour;"));
    }

    // 6

    private static void p06_nFrom0ToTheTapesBytes() {
        Edges.range("book", 0, 20, (x, n) -> x.book(n));
        Edges.range(Edges::busyWithoutTape, "book without a tape", 0, 0, (x, n) -> x.book(n));
    }

    private static void p06_nTo60() {
        Edges.range(EdgesOfTextsTest::withFullTape, "book with a full tape", 0, 60, (x, n) -> x.book(n));
    }

    private static void p06_howManyLines() {
        AlarmRule x = Edges.busyWithoutTape();
        Checks.due("three", 3, Checks.book(x, "2 0;1 1;0 0;"));
        Checks.due("told", 3, x.told(10));
        Checks.due("none", 0, Checks.book(x, ""));
        Checks.due("none is told", 0, x.told(10));
        Checks.due("the tape is empty", 0, x.count(1));
    }

    private static void p06_aBookChangesNothingElse() {
        AlarmRule twin = Edges.busyWithoutTape();
        AlarmRule x = Edges.busyWithoutTape();
        Checks.book(x, "0 1;2 1;");
        Checks.book(x, "1 0;");
        Checks.due("told 11", twin.told(11), x.told(11));
        Edges.same("the same book again", twin, x);
    }

    private static void p06_faultLess10AllStays() {
        Edges.fault(Checks::book, "0 1;x", -9, 4);
        Edges.fault(Checks::book, "0 1;3 1;", -8, 4);
        Edges.fault(Checks::book, "0 1;0 1;", -8, 4);
    }

    // 7

    private static void p07_noneWithout() {
        AlarmRule x = new AlarmRule();
        Checks.due("no text", -1, x.fault());
        Checks.law(x, "1");
        Checks.due("a text without", -1, x.fault());
    }

    private static void p07_ofTheLatestText() {
        AlarmRule x = Checks.with(Edges.TRIO);
        Edges.TextCall[] kinds = {Checks::republic, Checks::law, Checks::work, Checks::book};
        for (Edges.TextCall kind : kinds) {
            for (Edges.TextCall next : kinds) {
                kind.on(x, "   ?");
                Checks.due("a fault", 3, x.fault());
                next.on(x, " ?");
                Checks.due("of another", 1, x.fault());
                next.on(x, next == kinds[1] ? "1" : "");
                Checks.due("none", -1, x.fault());
            }
        }
    }

    private static void p07_placesFrom0To600() {
        AlarmRule x = new AlarmRule();
        Checks.republic(x, "?");
        Checks.due("the first byte", 0, x.fault());
        Checks.republic(x, "socks 1;" + " ".repeat(591) + "?");
        Checks.due("the last byte", 599, x.fault());
        Checks.republic(x, "socks 1" + " ".repeat(593));
        Checks.due("at the length", 600, x.fault());
    }

    private static void p07_aRefusedCallIsNoText() {
        AlarmRule x = new AlarmRule();
        Checks.law(x, "1+");
        Checks.illegal("no such n", () -> x.law(1));
        Checks.illegal("no such n", () -> x.work(-1));
        Checks.due("stays", 2, x.fault());
    }

    private static void p07_undoAndRestoreAreNoTexts() {
        AlarmRule x = Edges.busy();
        Checks.due("a fault", 6, x.fault());
        x.undo();
        x.restore();
        x.image();
        feedHours(x);
        Checks.due("stays", 6, x.fault());
    }

    // 8

    private static void p08_noneToUndo() {
        Edges.doesNothing(AlarmRule::new, "a new object", -1, AlarmRule::undo);
        Edges.doesNothing(() -> Checks.with(Edges.TRIO), "no work", -1, AlarmRule::undo);
        Edges.doesNothing(() -> {
            AlarmRule x = Edges.busy();
            for (int i = 0; i < 3; i++) x.undo();
            return x;
        }, "all undone", -1, AlarmRule::undo);
    }

    private static void p08_howManyAreLeft() {
        AlarmRule x = withManyWorks();
        for (int left = 15; left >= 0; left--) {
            Checks.due("left", left, x.undo());
            Checks.due("the hour", left, x.told(2));
            Checks.due("told 11", 0, x.told(11));
        }
        Checks.due("none", -1, x.undo());
    }

    private static void p08_worksThatDidNothingAreUndoneToo() {
        AlarmRule x = Checks.with(Edges.TRIO, "hour;");
        Checks.work(x, "");
        Checks.work(x, "let 0;");
        Checks.due("a refused one", 2, x.undo());
        Checks.due("an empty one", 1, x.undo());
        Checks.due("hour 1 still", 1, x.told(2));
        Checks.due("the hour", 0, x.undo());
        Checks.due("hour 0", 0, x.told(2));
    }

    private static void p08_allThatAWorkChanged() {
        AlarmRule twin = Edges.busy();
        AlarmRule x = Edges.busyWithoutTape();
        Checks.work(x, "set 0 9;let 1;wind 2;sock 1;sock 0;move 2 2 9;again 30[hour;];snooze 2;set 2 3;");
        Checks.due("back to three", 3, x.undo());
        Checks.feed(x, "loud % 7 + hour");
        Edges.same("as ahead of it", twin, x);
    }
}
