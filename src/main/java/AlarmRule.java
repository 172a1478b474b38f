import java.util.Arrays;
import java.util.NoSuchElementException;

/** A republic of sleepers that is ruled by who wakes first; see README.md for its use. */
public final class AlarmRule {
    public static final int NONE = -1;

    private static final int MOST_SLEEPERS = 7;
    private static final int MOST_CLOCKS = 6;
    private static final int MOST_WORKS = 16;
    private static final int MOST_IMAGES = 3;
    private static final int MOST_OPEN = 6;
    private static final int TAPE_BYTES = 600;
    private static final int LAW_BYTES = 150;
    private static final int WORK_BYTES = 150;
    private static final int BOOK_BYTES = 60;
    private static final int HOURS = 24;
    private static final int LAST_DAY = 300;
    private static final int MOST_SPRING = 20;
    private static final int TWO_DAYS = 48;
    private static final int RISING_HOURS = 6;
    private static final int WORKS_FULL = -20;

    private static final int MISPLACED = 1;
    private static final int NO_SUCH_NUMBER = 2;
    private static final int TOO_MANY = 3;

    private final Tape tape = new Tape();
    private final Republic land = new Republic();
    private final Republic spareLand = new Republic();
    private final Law rule = new Law();
    private final Law spareRule = new Law();
    private final Chores chores = new Chores();
    private final Book lines = new Book();
    private final Book spareLines = new Book();
    private final Ears ears = new Ears(land, rule);
    private final Morning morning = new Morning();
    private final Morning asked = new Morning();
    private final Works works = new Works();
    private final Album album = new Album();
    private final Trials trials = new Trials();
    private final Year almanac = new Year();
    private int refusedSteps = 0;
    private int missingCalls = 0;
    private int wrongCalls = 0;

    public AlarmRule() {
        morning.begin(land);
    }

    public int feed(int a, int b, int c, int d, int e) {
        if (!tape.hasRoom()) {
            return NONE;
        }
        tape.add(a);
        tape.add(b);
        tape.add(c);
        tape.add(d);
        tape.add(e);
        return tape.size();
    }

    public int republic(int n) throws IllegalArgumentException {
        openText(n, TAPE_BYTES);
        spareLand.readFrom(tape);
        if (!tape.failed()) {
            land.copyFrom(spareLand);
            startAnew();
        }
        return closeText(land.sleepers);
    }

    public int law(int n) throws IllegalArgumentException {
        openText(n, LAW_BYTES);
        spareRule.readFrom(tape);
        if (!tape.failed()) {
            rule.copyFrom(spareRule);
        }
        return closeText(1);
    }

    public int work(int n) throws IllegalArgumentException {
        openText(n, WORK_BYTES);
        if (works.isFull()) {
            return closeText(WORKS_FULL);
        }
        chores.readFrom(tape, land);
        if (!tape.failed()) {
            works.push(morning);
            chores.startOver();
            chores.carryOut(ears, morning, 0, chores.steps, 0);
            refusedSteps = chores.refused;
        }
        return closeText(chores.done);
    }

    public int book(int n) throws IllegalArgumentException {
        openText(n, BOOK_BYTES);
        spareLines.readFrom(tape, land.sleepers);
        if (!tape.failed()) {
            lines.copyFrom(spareLines);
        }
        return closeText(lines.size());
    }

    public int fault() {
        return tape.faultPlace;
    }

    public int undo() {
        if (works.isEmpty()) {
            return -1;
        }
        works.pop(morning);
        refusedSteps = 0;
        return works.size;
    }

    public int told(int what) throws IllegalArgumentException {
        needArgument(what >= 0 && what <= 11);
        switch (what) {
            case 0: return land.sleepers;
            case 1: return land.clocks;
            case 2: return morning.hourNow();
            case 3: return morning.dayNow();
            case 4: return morning.awakeOnes();
            case 5: return morning.leader();
            case 6: return morning.setClocks();
            case 7: return morning.stuffedClocks();
            case 8: return morning.socksLeft();
            case 9: return morning.springsTogether();
            case 10: return lines.size();
            default: return refusedSteps;
        }
    }

    public int sleeper(int sleeper, int what) throws NoSuchElementException, IllegalArgumentException {
        needSleeper(sleeper);
        needArgument(what >= 0 && what <= 4);
        switch (what) {
            case 0: return land.depthOf(sleeper);
            case 1: return land.votesOf(sleeper);
            case 2: return morning.wokeIn(sleeper);
            case 3: return morning.snoozesOf(sleeper);
            default: return morning.daysLed(sleeper);
        }
    }

    public int clock(int clock, int what) throws NoSuchElementException, IllegalArgumentException {
        needClock(clock);
        needArgument(what >= 0 && what <= 3);
        switch (what) {
            case 0: return land.loudOf(clock);
            case 1: return morning.springOf(clock);
            case 2: return morning.hourOf(clock);
            default: return morning.sockIn(clock);
        }
    }

    public int near(int sleeper, int clock) throws NoSuchElementException {
        needSleeper(sleeper);
        needClock(clock);
        return morning.nearness(sleeper, clock);
    }

    public int noise(int sleeper, int clock) throws NoSuchElementException {
        needSleeper(sleeper);
        needClock(clock);
        return ears.heard(morning, sleeper, 1 << clock);
    }

    public int would(int loud, int near, int depth, int sock, int hour, int day, int awake, int spring, int sleeper)
            throws IllegalArgumentException {
        needArgument(within(loud, 1, 30) && within(near, 0, 9) && within(depth, 1, 60) && within(sock, 0, 1));
        needArgument(within(hour, 0, HOURS - 1) && within(day, 0, LAST_DAY) && within(awake, 0, MOST_SLEEPERS));
        needArgument(within(spring, 0, MOST_SPRING) && within(sleeper, 0, MOST_SLEEPERS - 1));
        rule.tellThing(loud, near, depth, sock, spring);
        rule.tellTime(hour, day, awake, sleeper);
        return rule.noiseTold();
    }

    public int rung(int clocks) throws IllegalArgumentException {
        needArgument(areBits(clocks, land.clocks));
        if ((clocks & ~morning.woundClocks()) != 0) {
            return NONE;
        }
        return ears.wakers(morning, clocks);
    }

    public int rings() {
        return morning.ringing(morning.hourNow());
    }

    public int ahead(int n, int what) throws IllegalArgumentException {
        needArgument(within(n, 0, 99) && within(what, 0, 2));
        asked.copyFrom(morning);
        for (int i = 0; i < n; i++) {
            ears.passHour(asked);
        }
        switch (what) {
            case 0: return asked.awakeOnes();
            case 1: return asked.leader();
            default: return asked.springsTogether();
        }
    }

    public int wakes(int sleeper) throws NoSuchElementException {
        needSleeper(sleeper);
        asked.copyFrom(morning);
        for (int hours = 1; hours <= TWO_DAYS; hours++) {
            if (hasBit(ears.passHour(asked), sleeper)) {
                return hours;
            }
        }
        return NONE;
    }

    public int crown(int sleeper) throws NoSuchElementException {
        needSleeper(sleeper);
        trials.ringTogether(ears, morning);
        return trials.fewest((2 << sleeper) - 1, 1 << sleeper);
    }

    public int just(int sleepers) throws IllegalArgumentException {
        needArgument(areBits(sleepers, land.sleepers));
        trials.ringTogether(ears, morning);
        return trials.fewest((1 << MOST_SLEEPERS) - 1, sleepers);
    }

    public int each(int sleepers) throws IllegalArgumentException {
        needArgument(areBits(sleepers, land.sleepers));
        trials.ringAlone(ears, morning);
        return trials.fewest(sleepers, sleepers);
    }

    public int which(int what) throws IllegalArgumentException {
        needArgument(within(what, 0, 2));
        trials.ringTogether(ears, morning);
        switch (what) {
            case 0: return trials.howMany(lines.told, lines.woke);
            case 1: return trials.least(lines.told, lines.woke);
            default: return trials.inAll(lines.told, lines.woke);
        }
    }

    public int ask(int what) throws IllegalArgumentException {
        needArgument(within(what, 0, 1));
        trials.ringTogether(ears, morning);
        int best = NONE;
        int bestLeft = NONE;
        for (int sleeper = 0; sleeper < land.sleepers; sleeper++) {
            if (!hasBit(lines.told, sleeper)) {
                int left = leftAtWorst(1 << sleeper);
                if (best == NONE || left < bestLeft) {
                    best = sleeper;
                    bestLeft = left;
                }
            }
        }
        return what == 0 ? best : bestLeft;
    }

    public int swing(int sleeper) throws NoSuchElementException {
        needSleeper(sleeper);
        int whole = land.votesOfAll((1 << MOST_SLEEPERS) - 1);
        int own = land.votesOf(sleeper);
        int turned = 0;
        for (int set = 0; set < 1 << land.sleepers; set++) {
            int together = land.votesOfAll(set);
            if (!hasBit(set, sleeper) && together * 2 <= whole && (together + own) * 2 > whole) {
                turned++;
            }
        }
        return turned;
    }

    public int lasts(int clock) throws NoSuchElementException {
        needClock(clock);
        // 48 hours hold each hour of the day just twice.
        return morning.hourOf(clock) == NONE ? 0 : Math.min(TWO_DAYS / HOURS, morning.springOf(clock));
    }

    public int coup(int v, int w, int what) throws IllegalArgumentException {
        needArgument(within(v, 0, 99) && within(w, 0, 20) && within(what, 0, 2));
        int rests = 0;
        int first = NONE;
        int together = 0;
        for (int one = 0; one < RISING_HOURS; one++) {
            for (int other = 0; other < RISING_HOURS; other++) {
                if (isBestReply(one, other, v, w) && isBestReply(other, one, v, w)) {
                    rests++;
                    if (first == NONE) {
                        first = 10 * one + other;
                        together = gain(one, other, v, w) + gain(other, one, v, w);
                    }
                }
            }
        }
        switch (what) {
            case 0: return rests;
            case 1: return first;
            default: return together;
        }
    }

    public long prophet(int n, int k, int q, int part) throws IllegalArgumentException {
        needArgument(within(n, 0, 12) && within(k, 0, 13) && within(q, 0, 16) && within(part, 0, 1));
        long above = 0;
        long choices = 1;
        for (int trueOnes = 0; trueOnes <= n; trueOnes++) {
            if (trueOnes >= k) {
                above += choices * power(q, trueOnes) * power(16 - q, n - trueOnes);
            }
            choices = choices * (n - trueOnes) / (trueOnes + 1);
        }
        long below = power(16, n);
        // Below is a power of 2, so that halving both is all that least terms can ask.
        for (int i = 0; i < 48 && below > 1 && above % 2 == 0; i++) {
            above /= 2;
            below /= 2;
        }
        return part == 0 ? above : below;
    }

    public int dreams(int sleeper, int sleepers, int n) throws NoSuchElementException, IllegalArgumentException {
        needSleeper(sleeper);
        needArgument(areBits(sleepers, land.sleepers) && within(n, 0, 999));
        if (!hasBit(sleepers, sleeper)) {
            return 0;
        }
        int bound = Republic.DEEPEST;
        while (bound > 0 && land.levelled(sleepers, bound) > n) {
            bound--;
        }
        return Math.min(bound, land.depthOf(sleeper));
    }

    public int loudest(int sleeper, int what) throws NoSuchElementException, IllegalArgumentException {
        needSleeper(sleeper);
        needArgument(within(what, 0, 1));
        int best = NONE;
        int most = NONE;
        for (int clock = 0; clock < land.clocks; clock++) {
            int heard = ears.heard(morning, sleeper, 1 << clock);
            if (heard > most) {
                best = clock;
                most = heard;
            }
        }
        return what == 0 ? best : most;
    }

    public int dead() {
        int sleeping = land.everyone() & ~morning.awakeOnes();
        return sleeping & ~ears.wakers(morning, morning.woundClocks());
    }

    public int votes(int what) throws IllegalArgumentException {
        needArgument(within(what, 0, 1));
        int awake = morning.awakeOnes();
        return land.votesOfAll(what == 0 ? awake : ~awake);
    }

    public int stroke(int what) throws IllegalArgumentException {
        needArgument(within(what, 0, 1));
        int best = NONE;
        int most = 0;
        for (int hour = 0; hour < HOURS; hour++) {
            int many = Integer.bitCount(morning.clocksFor(hour));
            if (many > most) {
                best = hour;
                most = many;
            }
        }
        if (best == NONE) {
            return NONE;
        }
        return what == 0 ? best : most;
    }

    public int lacks(int sleeper, int hour) throws NoSuchElementException, IllegalArgumentException {
        needSleeper(sleeper);
        needArgument(within(hour, 0, HOURS - 1));
        if (!morning.sleeps(sleeper)) {
            return 0;
        }
        int heard = ears.heard(morning, sleeper, morning.ringing(hour));
        return Math.max(0, land.depthOf(sleeper) - heard);
    }

    public int deaf(int clock) throws NoSuchElementException {
        needClock(clock);
        int sleeping = land.everyone() & ~morning.awakeOnes();
        return sleeping & ~ears.wakers(morning, 1 << clock);
    }

    public int idle() {
        return land.everyClock() & ~(morning.setClocks() & morning.woundClocks());
    }

    public int lightest(int what) throws IllegalArgumentException {
        needArgument(within(what, 0, 1));
        int best = NONE;
        int least = NONE;
        for (int sleeper = 0; sleeper < land.sleepers; sleeper++) {
            int depth = land.depthOf(sleeper);
            if (morning.sleeps(sleeper) && (best == NONE || depth < least)) {
                best = sleeper;
                least = depth;
            }
        }
        return what == 0 ? best : least;
    }

    public int all(int sleeper) throws NoSuchElementException {
        needSleeper(sleeper);
        return ears.heard(morning, sleeper, morning.woundClocks());
    }

    public int bells() {
        int hours = 0;
        for (int hour = 0; hour < HOURS; hour++) {
            if (morning.ringing(hour) != 0) {
                hours |= 1 << hour;
            }
        }
        return hours;
    }

    public int until() {
        for (int hours = 0; hours < HOURS; hours++) {
            if (morning.ringing((morning.hourNow() + hours) % HOURS) != 0) {
                return hours;
            }
        }
        return NONE;
    }

    public int year(int seed, int days, int q, int what) throws IllegalArgumentException {
        needArgument(within(days, 1, 30) && within(q, 0, 16) && within(what, 0, 3));
        almanac.begin(morning, seed);
        almanac.pass(ears, days, q);
        switch (what) {
            case 0: return almanac.wakings;
            case 1: return almanac.morning.springsTogether();
            case 2: return almanac.oftenestLeader();
            default: return almanac.morning.stuffedClocks();
        }
    }

    public int span(int seed, int many, int days, int q, int what, int sleeper) throws IllegalArgumentException {
        needArgument(within(many, 1, 10) && within(days, 1, 30) && within(q, 0, 16) && within(what, 0, 2));
        needArgument(within(sleeper, 0, land.sleepers - 1));
        int fewest = NONE;
        int most = 0;
        int led = 0;
        for (int i = 0; i < many; i++) {
            almanac.begin(morning, seed + i);
            almanac.pass(ears, days, q);
            fewest = i == 0 ? almanac.wakings : Math.min(fewest, almanac.wakings);
            most = Math.max(most, almanac.wakings);
            led += almanac.daysLedInIt(sleeper) > 0 ? 1 : 0;
        }
        switch (what) {
            case 0: return fewest;
            case 1: return most;
            default: return led;
        }
    }

    public int image() {
        if (album.isFull()) {
            return -1;
        }
        album.keep(morning, works);
        return album.size();
    }

    public int restore() {
        if (album.isEmpty()) {
            return -1;
        }
        album.bringBack(morning, works);
        refusedSteps = 0;
        return album.size();
    }

    public int status(int what) {
        switch (what) {
            case 0: return missingCalls;
            case 1: return wrongCalls;
            default: return NONE;
        }
    }

    public int count(int what) {
        switch (what) {
            case 0: return album.size();
            case 1: return tape.size();
            case 2: return works.size;
            default: return NONE;
        }
    }

    private void openText(int n, int most) {
        needArgument(n >= 0 && n <= most && n <= tape.size());
        tape.open(n);
    }

    private int closeText(int answer) {
        tape.wipe();
        return tape.failed() ? tape.faultKind - 10 : answer;
    }

    private void startAnew() {
        morning.begin(land);
        rule.copyPlain();
        lines.wipe();
        works.wipe();
        album.wipe();
        refusedSteps = 0;
    }

    /** How many sets are left at the worst, if a sleeper that is in no line is asked. */
    private int leftAtWorst(int bit) {
        int ifWoken = trials.howMany(lines.told | bit, lines.woke | bit);
        int ifNot = trials.howMany(lines.told | bit, lines.woke);
        return Math.max(ifWoken, ifNot);
    }

    private void needSleeper(int sleeper) {
        if (!within(sleeper, 0, land.sleepers - 1)) {
            missingCalls++;
            throw new NoSuchElementException("no such sleeper");
        }
    }

    private void needClock(int clock) {
        if (!within(clock, 0, land.clocks - 1)) {
            missingCalls++;
            throw new NoSuchElementException("no such clock");
        }
    }

    private void needArgument(boolean right) {
        if (!right) {
            wrongCalls++;
            throw new IllegalArgumentException("no such argument");
        }
    }

    private static boolean within(int number, int least, int most) {
        return number >= least && number <= most;
    }

    private static boolean areBits(int bits, int many) {
        return bits >= 0 && bits < 1 << many;
    }

    private static boolean hasBit(int bits, int number) {
        return (bits >> number & 1) == 1;
    }

    /** Rows are read by this wherever the index is not the counter of a loop over the row itself. */
    private static int at(int[] row, int index) {
        return index >= 0 && index < row.length ? row[index] : 0;
    }

    private static void put(int[] row, int index, int value) {
        if (index >= 0 && index < row.length) {
            row[index] = value;
        }
    }

    private static int gain(int own, int other, int v, int w) {
        int prize = own < other ? v : own == other ? v / 2 : 0;
        return prize - w * (RISING_HOURS - 1 - own);
    }

    private static boolean isBestReply(int own, int other, int v, int w) {
        int had = gain(own, other, v, w);
        for (int hour = 0; hour < RISING_HOURS; hour++) {
            if (gain(hour, other, v, w) > had) {
                return false;
            }
        }
        return true;
    }

    private static long power(int base, int times) {
        long product = 1;
        for (int i = 0; i < times; i++) {
            product *= base;
        }
        return product;
    }

    /** The bytes that were fed, and the reading of one text from them, which ends at the first fault. */
    private static final class Tape {
        static final int END = -1;
        private static final int FED = 20;
        private static final int FAR_TOO_MUCH = 9999;

        private final int[] bytes = new int[TAPE_BYTES];
        private int size = 0;
        private int end = 0;
        private int place = 0;
        private int start = 0;
        private int faultKind = 0;
        private int faultPlace = NONE;

        boolean hasRoom() {
            return size + FED <= TAPE_BYTES;
        }

        void add(int number) {
            for (int shift = 24; shift >= 0; shift -= 8) {
                put(bytes, size, number >>> shift & 255);
                size++;
            }
        }

        int size() {
            return size;
        }

        void wipe() {
            size = 0;
        }

        void open(int n) {
            end = Math.min(n, size);
            place = 0;
            start = 0;
            faultKind = 0;
            faultPlace = NONE;
        }

        boolean failed() {
            return faultKind != 0;
        }

        /** A fault at the first byte of what was looked at last; only the first fault counts. */
        void fail(int kind) {
            if (faultKind == 0) {
                faultKind = kind;
                faultPlace = start;
            }
        }

        /** The next byte that is no blank; END behind the text, and behind a fault. */
        int peek() {
            if (faultKind != 0) {
                return END;
            }
            while (place < end && place < bytes.length && bytes[place] == ' ') {
                place++;
            }
            start = place;
            return place < end && place < bytes.length ? bytes[place] : END;
        }

        void needSign(int sign) {
            if (peek() == sign) {
                place++;
            } else {
                fail(MISPLACED);
            }
        }

        void needEnd() {
            if (peek() != END) {
                fail(MISPLACED);
            }
        }

        int takeNumber(int least, int most) {
            if (!isDigit(peek())) {
                fail(MISPLACED);
                return 0;
            }
            int number = 0;
            while (place < end && isDigit(at(bytes, place))) {
                number = Math.min(FAR_TOO_MUCH, number * 10 + at(bytes, place) - '0');
                place++;
            }
            if (!within(number, least, most)) {
                fail(NO_SUCH_NUMBER);
            }
            return number;
        }

        /** Which of the words (with one blank between them) stands next; a fault, and NONE, if none of them. */
        int takeWord(String words) {
            peek();
            while (place < end && isLetter(at(bytes, place))) {
                place++;
            }
            int number = 0;
            int from = 0;
            for (int i = 0; i <= words.length(); i++) {
                if (i == words.length() || words.charAt(i) == ' ') {
                    if (i > from && isWord(words, from, i)) {
                        return number;
                    }
                    number++;
                    from = i + 1;
                }
            }
            fail(MISPLACED);
            return NONE;
        }

        private boolean isWord(String words, int from, int to) {
            if (failed() || place - start != to - from) {
                return false;
            }
            for (int i = from; i < to && i < words.length(); i++) {
                if (words.charAt(i) != at(bytes, start + i - from)) {
                    return false;
                }
            }
            return true;
        }

        static boolean isDigit(int sign) {
            return sign >= '0' && sign <= '9';
        }

        static boolean isLetter(int sign) {
            return sign >= 'a' && sign <= 'z';
        }
    }

    /** What a REPUBLIC's text tells: all of it that no WORK changes, and how things stand at first. */
    private static final class Republic {
        static final int DEEPEST = 60;
        private static final String CLAUSES = "sleeper clock near socks";
        private static final int SLEEPER = 0;
        private static final int CLOCK = 1;
        private static final int NEAR = 2;
        private static final int MOST_CLAUSES = 60;

        private final int[] depths = new int[MOST_SLEEPERS];
        private final int[] votes = new int[MOST_SLEEPERS];
        private final int[] louds = new int[MOST_CLOCKS];
        private final int[] springs = new int[MOST_CLOCKS];
        private final int[] nears = new int[MOST_SLEEPERS * MOST_CLOCKS];
        private int sleepers = 0;
        private int clocks = 0;
        private int socks = 2;

        void copyFrom(Republic other) {
            System.arraycopy(other.depths, 0, depths, 0, MOST_SLEEPERS);
            System.arraycopy(other.votes, 0, votes, 0, MOST_SLEEPERS);
            System.arraycopy(other.louds, 0, louds, 0, MOST_CLOCKS);
            System.arraycopy(other.springs, 0, springs, 0, MOST_CLOCKS);
            System.arraycopy(other.nears, 0, nears, 0, MOST_SLEEPERS * MOST_CLOCKS);
            sleepers = other.sleepers;
            clocks = other.clocks;
            socks = other.socks;
        }

        void readFrom(Tape tape) {
            wipe();
            for (int told = 0; told <= MOST_CLAUSES && tape.peek() != Tape.END; told++) {
                readClause(tape, told);
            }
        }

        private void wipe() {
            Arrays.fill(depths, 0);
            Arrays.fill(votes, 0);
            Arrays.fill(louds, 0);
            Arrays.fill(springs, 0);
            Arrays.fill(nears, 0);
            sleepers = 0;
            clocks = 0;
            socks = 2;
        }

        private void readClause(Tape tape, int told) {
            int kind = tape.takeWord(CLAUSES);
            if (told >= MOST_CLAUSES || isFullFor(kind)) {
                tape.fail(TOO_MANY);
            }
            if (tape.failed()) {
                return;
            }
            if (kind == SLEEPER) {
                readSleeper(tape);
            } else if (kind == CLOCK) {
                readClock(tape);
            } else if (kind == NEAR) {
                readNear(tape);
            } else {
                socks = tape.takeNumber(0, 9);
            }
            tape.needSign(';');
        }

        private boolean isFullFor(int kind) {
            return kind == SLEEPER && sleepers >= MOST_SLEEPERS || kind == CLOCK && clocks >= MOST_CLOCKS;
        }

        private void readSleeper(Tape tape) {
            put(depths, sleepers, tape.takeNumber(1, DEEPEST));
            put(votes, sleepers, tape.takeNumber(1, 9));
            sleepers++;
        }

        private void readClock(Tape tape) {
            put(louds, clocks, tape.takeNumber(1, 30));
            put(springs, clocks, tape.takeNumber(0, MOST_SPRING));
            clocks++;
        }

        private void readNear(Tape tape) {
            int sleeper = tape.takeNumber(0, sleepers - 1);
            int clock = tape.takeNumber(0, clocks - 1);
            int nearness = tape.takeNumber(0, 9);
            if (!tape.failed()) {
                put(nears, sleeper * MOST_CLOCKS + clock, nearness);
            }
        }

        int depthOf(int sleeper) {
            return at(depths, sleeper);
        }

        int votesOf(int sleeper) {
            return at(votes, sleeper);
        }

        int loudOf(int clock) {
            return at(louds, clock);
        }

        int everyone() {
            return (1 << sleepers) - 1;
        }

        int everyClock() {
            return (1 << clocks) - 1;
        }

        int votesOfAll(int sleepersAsked) {
            int together = 0;
            for (int sleeper = 0; sleeper < MOST_SLEEPERS; sleeper++) {
                together += hasBit(sleepersAsked, sleeper) ? votesOf(sleeper) : 0;
            }
            return together;
        }

        /** What is given to such sleepers, each having its depth, but no more than a bound. */
        int levelled(int sleepersAsked, int bound) {
            int given = 0;
            for (int sleeper = 0; sleeper < MOST_SLEEPERS; sleeper++) {
                given += hasBit(sleepersAsked, sleeper) ? Math.min(bound, depthOf(sleeper)) : 0;
            }
            return given;
        }
    }

    /** All that WORK changes, in one row of cells, so that one copy keeps it or brings it back. */
    private static final class Morning {
        private static final int SPRING = 0;
        private static final int SET = SPRING + MOST_CLOCKS;
        private static final int SOCK = SET + MOST_CLOCKS;
        private static final int NEAR = SOCK + MOST_CLOCKS;
        private static final int WOKE = NEAR + MOST_SLEEPERS * MOST_CLOCKS;
        private static final int SNOOZED = WOKE + MOST_SLEEPERS;
        private static final int LED = SNOOZED + MOST_SLEEPERS;
        private static final int HOUR = LED + MOST_SLEEPERS;
        private static final int DAY = HOUR + 1;
        private static final int SOCKS = DAY + 1;
        static final int CELLS = SOCKS + 1;

        private final int[] cells = new int[CELLS];

        void begin(Republic republic) {
            Arrays.fill(cells, 0);
            System.arraycopy(republic.springs, 0, cells, SPRING, MOST_CLOCKS);
            System.arraycopy(republic.nears, 0, cells, NEAR, MOST_SLEEPERS * MOST_CLOCKS);
            for (int i = SET; i < SET + MOST_CLOCKS; i++) {
                cells[i] = NONE;
            }
            sendAllToSleep();
            cells[SOCKS] = republic.socks;
        }

        void copyFrom(Morning other) {
            System.arraycopy(other.cells, 0, cells, 0, CELLS);
        }

        int hourNow() {
            return cells[HOUR];
        }

        int dayNow() {
            return cells[DAY];
        }

        boolean isLastHour() {
            return hourNow() == HOURS - 1 && dayNow() >= LAST_DAY;
        }

        int socksLeft() {
            return cells[SOCKS];
        }

        int springOf(int clock) {
            return at(cells, SPRING + clock);
        }

        int hourOf(int clock) {
            return at(cells, SET + clock);
        }

        int sockIn(int clock) {
            return at(cells, SOCK + clock);
        }

        int nearness(int sleeper, int clock) {
            return at(cells, NEAR + sleeper * MOST_CLOCKS + clock);
        }

        int wokeIn(int sleeper) {
            return at(cells, WOKE + sleeper);
        }

        boolean sleeps(int sleeper) {
            return at(cells, WOKE + sleeper) == NONE;
        }

        int snoozesOf(int sleeper) {
            return at(cells, SNOOZED + sleeper);
        }

        int daysLed(int sleeper) {
            return at(cells, LED + sleeper);
        }

        int awakeOnes() {
            int bits = 0;
            for (int sleeper = 0; sleeper < MOST_SLEEPERS; sleeper++) {
                bits |= sleeps(sleeper) ? 0 : 1 << sleeper;
            }
            return bits;
        }

        int awakeMany() {
            int many = 0;
            for (int i = WOKE; i < WOKE + MOST_SLEEPERS; i++) {
                many += cells[i] == NONE ? 0 : 1;
            }
            return many;
        }

        int leader() {
            int first = NONE;
            int earliest = HOURS;
            for (int sleeper = 0; sleeper < MOST_SLEEPERS; sleeper++) {
                int hour = wokeIn(sleeper);
                if (hour != NONE && hour < earliest) {
                    first = sleeper;
                    earliest = hour;
                }
            }
            return first;
        }

        int clocksFor(int hour) {
            int bits = 0;
            for (int clock = 0; clock < MOST_CLOCKS; clock++) {
                bits |= hourOf(clock) == hour ? 1 << clock : 0;
            }
            return bits;
        }

        int setClocks() {
            return (1 << MOST_CLOCKS) - 1 & ~clocksFor(NONE);
        }

        int woundClocks() {
            int bits = 0;
            for (int clock = 0; clock < MOST_CLOCKS; clock++) {
                bits |= springOf(clock) > 0 ? 1 << clock : 0;
            }
            return bits;
        }

        int stuffedClocks() {
            int bits = 0;
            for (int clock = 0; clock < MOST_CLOCKS; clock++) {
                bits |= sockIn(clock) << clock;
            }
            return bits;
        }

        int ringing(int hour) {
            int bits = clocksFor(hour);
            return bits == 0 ? 0 : bits & woundClocks();
        }

        int springsTogether() {
            int together = 0;
            for (int clock = 0; clock < MOST_CLOCKS; clock++) {
                together += springOf(clock);
            }
            return together;
        }

        boolean setClock(int clock, int hour) {
            return changeCell(SET + clock, hour);
        }

        boolean moveClock(int clock, int sleeper, int nearness) {
            return changeCell(NEAR + sleeper * MOST_CLOCKS + clock, nearness);
        }

        boolean windUp(int clock) {
            return changeCell(SPRING + clock, Math.min(MOST_SPRING, springOf(clock) + 5));
        }

        boolean turnSock(int clock) {
            boolean inIt = sockIn(clock) == 1;
            if (!inIt && socksLeft() == 0) {
                return false;
            }
            put(cells, SOCK + clock, inIt ? 0 : 1);
            cells[SOCKS] += inIt ? 1 : -1;
            return true;
        }

        boolean doze(int sleeper) {
            if (sleeps(sleeper)) {
                return false;
            }
            put(cells, WOKE + sleeper, NONE);
            put(cells, SNOOZED + sleeper, snoozesOf(sleeper) + 1);
            return true;
        }

        /** Springs are spent and sleepers woken only here, behind all that is heard in an hour. */
        void endHour(int rung, int woken) {
            for (int clock = 0; clock < MOST_CLOCKS; clock++) {
                put(cells, SPRING + clock, springOf(clock) - (rung >> clock & 1));
            }
            for (int sleeper = 0; sleeper < MOST_SLEEPERS; sleeper++) {
                if (hasBit(woken, sleeper)) {
                    put(cells, WOKE + sleeper, hourNow());
                }
            }
        }

        void turnHour() {
            if (hourNow() < HOURS - 1) {
                cells[HOUR]++;
                return;
            }
            int first = leader();
            if (first != NONE) {
                put(cells, LED + first, daysLed(first) + 1);
            }
            sendAllToSleep();
            cells[HOUR] = 0;
            cells[DAY]++;
        }

        private void sendAllToSleep() {
            for (int i = WOKE; i < WOKE + MOST_SLEEPERS; i++) {
                cells[i] = NONE;
            }
        }

        private boolean changeCell(int index, int value) {
            if (at(cells, index) == value) {
                return false;
            }
            put(cells, index, value);
            return true;
        }
    }

    /** A LAW as signs that are worked off from left to right on a pile of numbers. */
    private static final class Law {
        private static final String WORDS = "loud near depth sock hour day awake spring sleeper least most";
        private static final int GREATEST_NUMBER = 999;
        private static final int VARIABLE = 1000;
        private static final int VARIABLES = 9;
        private static final int ADD = 2000;
        private static final int SUBTRACT = 2001;
        private static final int MULTIPLY = 2002;
        private static final int DIVIDE = 2003;
        private static final int REMAIN = 2004;
        private static final int LEAST = 2005;
        private static final int MOST = 2006;
        private static final int MOST_NOISE = 99;
        /** loud + near * 3 - sock * 12 */
        private static final int[] PLAIN = {1000, 1001, 3, 2002, 2000, 1003, 12, 2002, 2001};

        private final int[] signs = new int[LAW_BYTES];
        private final int[] pile = new int[LAW_BYTES];
        private final int[] inputs = new int[VARIABLES];
        private int length = 0;

        Law() {
            copyPlain();
        }

        void copyPlain() {
            System.arraycopy(PLAIN, 0, signs, 0, PLAIN.length);
            length = PLAIN.length;
        }

        void copyFrom(Law other) {
            System.arraycopy(other.signs, 0, signs, 0, LAW_BYTES);
            length = other.length;
        }

        void readFrom(Tape tape) {
            length = 0;
            readSum(tape, 0);
            tape.needEnd();
        }

        private void readSum(Tape tape, int open) {
            readProduct(tape, open);
            for (int i = 0; i < LAW_BYTES && !tape.failed(); i++) {
                int sign = tape.peek();
                if (sign != '+' && sign != '-') {
                    return;
                }
                tape.needSign(sign);
                readProduct(tape, open);
                write(sign == '+' ? ADD : SUBTRACT);
            }
        }

        private void readProduct(Tape tape, int open) {
            readUnit(tape, open);
            for (int i = 0; i < LAW_BYTES && !tape.failed(); i++) {
                int sign = tape.peek();
                if (sign != '*' && sign != '/' && sign != '%') {
                    return;
                }
                tape.needSign(sign);
                readUnit(tape, open);
                write(sign == '*' ? MULTIPLY : sign == '/' ? DIVIDE : REMAIN);
            }
        }

        private void readUnit(Tape tape, int open) {
            int sign = tape.peek();
            if (Tape.isDigit(sign)) {
                write(tape.takeNumber(0, GREATEST_NUMBER));
            } else if (sign == '(') {
                readBrackets(tape, open);
            } else {
                int word = tape.takeWord(WORDS);
                if (word >= VARIABLES) {
                    readPair(tape, open);
                    write(LEAST + word - VARIABLES);
                } else {
                    write(VARIABLE + word);
                }
            }
        }

        private void readBrackets(Tape tape, int open) {
            if (open >= MOST_OPEN) {
                tape.fail(TOO_MANY);
                return;
            }
            tape.needSign('(');
            readSum(tape, open + 1);
            tape.needSign(')');
        }

        private void readPair(Tape tape, int open) {
            if (open >= MOST_OPEN) {
                tape.fail(TOO_MANY);
                return;
            }
            tape.needSign('[');
            readSum(tape, open + 1);
            tape.needSign(',');
            readSum(tape, open + 1);
            tape.needSign(']');
        }

        private void write(int sign) {
            if (length < LAW_BYTES) {
                put(signs, length, sign);
                length++;
            }
        }

        void tellThing(int loud, int near, int depth, int sock, int spring) {
            inputs[0] = loud;
            inputs[1] = near;
            inputs[2] = depth;
            inputs[3] = sock;
            inputs[7] = spring;
        }

        void tellTime(int hour, int day, int awake, int sleeper) {
            inputs[4] = hour;
            inputs[5] = day;
            inputs[6] = awake;
            inputs[8] = sleeper;
        }

        /** NOISE by what was told last. */
        int noiseTold() {
            int top = 0;
            for (int i = 0; i < length && i < signs.length; i++) {
                int sign = signs[i];
                if (sign < VARIABLE) {
                    put(pile, top, sign);
                    top++;
                } else if (sign < ADD) {
                    put(pile, top, at(inputs, sign - VARIABLE));
                    top++;
                } else {
                    top--;
                    put(pile, top - 1, join(sign, at(pile, top - 1), at(pile, top)));
                }
            }
            return Math.max(0, Math.min(MOST_NOISE, at(pile, 0)));
        }

        private static int join(int sign, int one, int other) {
            switch (sign) {
                case ADD: return one + other;
                case SUBTRACT: return one - other;
                case MULTIPLY: return one * other;
                case DIVIDE: return other == 0 ? 0 : one / other;
                case REMAIN: return other == 0 ? 0 : one % other;
                case LEAST: return one < other ? one : other;
                default: return one > other ? one : other;
            }
        }
    }

    /** Who hears what, and wakes by it, in the republic and by the law of now. */
    private static final class Ears {
        private final Republic republic;
        private final Law law;

        Ears(Republic republic, Law law) {
            this.republic = republic;
            this.law = law;
        }

        /** NOISES of such clocks to a sleeper together, were these to ring now. */
        int heard(Morning morning, int sleeper, int clocks) {
            law.tellTime(morning.hourNow(), morning.dayNow(), morning.awakeMany(), sleeper);
            int together = 0;
            for (int clock = 0; clock < republic.clocks; clock++) {
                if (hasBit(clocks, clock)) {
                    law.tellThing(republic.loudOf(clock), morning.nearness(sleeper, clock),
                            republic.depthOf(sleeper), morning.sockIn(clock), morning.springOf(clock));
                    together += law.noiseTold();
                }
            }
            return together;
        }

        /** Who sleeps now, and would wake by such clocks, were these to ring together. */
        int wakers(Morning morning, int clocks) {
            int bits = 0;
            for (int sleeper = 0; clocks != 0 && sleeper < republic.sleepers; sleeper++) {
                if (morning.sleeps(sleeper) && heard(morning, sleeper, clocks) >= republic.depthOf(sleeper)) {
                    bits |= 1 << sleeper;
                }
            }
            return bits;
        }

        /** An hour goes by: who woke in it. */
        int passHour(Morning morning) {
            int rung = morning.ringing(morning.hourNow());
            if (rung == 0) {
                morning.turnHour();
                return 0;
            }
            int woken = wakers(morning, rung);
            morning.endHour(rung, woken);
            morning.turnHour();
            return woken;
        }
    }

    /** A WORK as rows of steps; an again has behind it the steps of its body. */
    private static final class Chores {
        private static final String WORDS = "set let wind sock move snooze hour again";
        private static final int SET = 0;
        private static final int LET = 1;
        private static final int WIND = 2;
        private static final int SOCK = 3;
        private static final int MOVE = 4;
        private static final int SNOOZE = 5;
        private static final int AGAIN = 7;
        /** The shortest step has five bytes. */
        private static final int MOST_STEPS = WORK_BYTES / 5;
        private static final int MOST_BEGUN = 200;
        private static final int MOST_TURNS = 60;

        private final int[] kinds = new int[MOST_STEPS];
        private final int[] things = new int[MOST_STEPS];
        private final int[] values = new int[MOST_STEPS];
        /** Of a move whom it is moved to; of an again the step behind its body. */
        private final int[] targets = new int[MOST_STEPS];
        private int steps = 0;
        private int begun = 0;
        private int done = 0;
        private int refused = 0;

        void readFrom(Tape tape, Republic republic) {
            steps = 0;
            readSteps(tape, republic, 0);
        }

        private void readSteps(Tape tape, Republic republic, int open) {
            int stop = open == 0 ? Tape.END : ']';
            for (int i = 0; i <= MOST_STEPS && !tape.failed() && tape.peek() != stop; i++) {
                readStep(tape, republic, open);
            }
        }

        private void readStep(Tape tape, Republic republic, int open) {
            int kind = tape.takeWord(WORDS);
            if (kind == AGAIN && open >= MOST_OPEN) {
                tape.fail(TOO_MANY);
            }
            if (tape.failed()) {
                return;
            }
            int row = steps;
            steps++;
            put(kinds, row, kind);
            if (kind == AGAIN) {
                readAgain(tape, republic, row, open);
            } else if (kind == SNOOZE) {
                put(things, row, tape.takeNumber(0, republic.sleepers - 1));
            } else if (kind <= MOVE) {
                put(things, row, tape.takeNumber(0, republic.clocks - 1));
                readValues(tape, republic, row, kind);
            }
            tape.needSign(';');
        }

        private void readValues(Tape tape, Republic republic, int row, int kind) {
            if (kind == SET) {
                put(values, row, tape.takeNumber(0, HOURS - 1));
            } else if (kind == MOVE) {
                put(targets, row, tape.takeNumber(0, republic.sleepers - 1));
                put(values, row, tape.takeNumber(0, 9));
            }
        }

        private void readAgain(Tape tape, Republic republic, int row, int open) {
            put(values, row, tape.takeNumber(0, MOST_TURNS));
            tape.needSign('[');
            readSteps(tape, republic, open + 1);
            tape.needSign(']');
            put(targets, row, steps);
        }

        void startOver() {
            begun = 0;
            done = 0;
            refused = 0;
        }

        void carryOut(Ears ears, Morning morning, int from, int to, int depth) {
            int row = from;
            while (row < to && row < MOST_STEPS && begun < MOST_BEGUN && depth <= MOST_OPEN) {
                begun++;
                int next = row + 1;
                if (at(kinds, row) == AGAIN) {
                    int behind = Math.max(next, at(targets, row));
                    for (int turn = 0; turn < at(values, row) && begun < MOST_BEGUN; turn++) {
                        carryOut(ears, morning, next, behind, depth + 1);
                    }
                    next = behind;
                } else if (canCarryOut(ears, morning, row)) {
                    done++;
                } else {
                    refused++;
                }
                row = next;
            }
        }

        private boolean canCarryOut(Ears ears, Morning morning, int row) {
            int thing = at(things, row);
            switch (at(kinds, row)) {
                case SET: return morning.setClock(thing, at(values, row));
                case LET: return morning.setClock(thing, NONE);
                case WIND: return morning.windUp(thing);
                case SOCK: return morning.turnSock(thing);
                case MOVE: return morning.moveClock(thing, at(targets, row), at(values, row));
                case SNOOZE: return morning.doze(thing);
                default: break;
            }
            if (morning.isLastHour()) {
                return false;
            }
            ears.passHour(morning);
            return true;
        }
    }

    /** The lines of a BOOK: of whom it tells, and who of these woke, as bits. */
    private static final class Book {
        private int told = 0;
        private int woke = 0;

        void wipe() {
            told = 0;
            woke = 0;
        }

        void copyFrom(Book other) {
            told = other.told;
            woke = other.woke;
        }

        int size() {
            return Integer.bitCount(told);
        }

        void readFrom(Tape tape, int sleepers) {
            wipe();
            for (int i = 0; i <= MOST_SLEEPERS && tape.peek() != Tape.END; i++) {
                readLine(tape, sleepers);
            }
        }

        private void readLine(Tape tape, int sleepers) {
            int sleeper = tape.takeNumber(0, sleepers - 1);
            if (!tape.failed() && hasBit(told, sleeper)) {
                tape.fail(NO_SUCH_NUMBER);
            }
            int woken = tape.takeNumber(0, 1);
            tape.needSign(';');
            if (!tape.failed()) {
                told |= 1 << sleeper;
                woke |= woken << sleeper;
            }
        }
    }

    /** The mornings ahead of each WORK that can be undone. */
    private static final class Works {
        private final int[] rows = new int[MOST_WORKS * Morning.CELLS];
        private int size = 0;

        boolean isFull() {
            return size >= MOST_WORKS;
        }

        boolean isEmpty() {
            return size <= 0;
        }

        void wipe() {
            size = 0;
        }

        void copyFrom(Works other) {
            System.arraycopy(other.rows, 0, rows, 0, rows.length);
            size = other.size;
        }

        void push(Morning morning) {
            if (!isFull()) {
                System.arraycopy(morning.cells, 0, rows, size * Morning.CELLS, Morning.CELLS);
                size++;
            }
        }

        void pop(Morning morning) {
            if (!isEmpty()) {
                size--;
                System.arraycopy(rows, size * Morning.CELLS, morning.cells, 0, Morning.CELLS);
            }
        }
    }

    /** The IMAGES, the latest of which is brought back first. */
    private static final class Album {
        private final Morning[] mornings = {new Morning(), new Morning(), new Morning()};
        private final Works[] histories = {new Works(), new Works(), new Works()};
        private int images = 0;

        boolean isFull() {
            return images >= MOST_IMAGES;
        }

        boolean isEmpty() {
            return images <= 0;
        }

        int size() {
            return images;
        }

        void wipe() {
            images = 0;
        }

        void keep(Morning morning, Works works) {
            if (images >= 0 && images < mornings.length && images < histories.length) {
                mornings[images].copyFrom(morning);
                histories[images].copyFrom(works);
                images++;
            }
        }

        void bringBack(Morning morning, Works works) {
            int latest = images - 1;
            if (latest >= 0 && latest < mornings.length && latest < histories.length) {
                morning.copyFrom(mornings[latest]);
                works.copyFrom(histories[latest]);
                images = latest;
            }
        }
    }

    /** Who would wake by each set of clocks, were it RUNG; NONE for a set with a clock that has no spring. */
    private static final class Trials {
        private static final int SETS = 1 << MOST_CLOCKS;

        private final int[] woken = new int[SETS];
        private final int[] noises = new int[MOST_CLOCKS];
        private final int[] heard = new int[SETS];

        void ringTogether(Ears ears, Morning morning) {
            clearSets(morning.woundClocks());
            for (int sleeper = 0; sleeper < ears.republic.sleepers; sleeper++) {
                if (morning.sleeps(sleeper)) {
                    listen(ears, morning, sleeper);
                    for (int set = 1; set < SETS; set++) {
                        int noise = at(noises, Integer.numberOfTrailingZeros(set));
                        heard[set] = at(heard, set & set - 1) + noise;
                        addWaker(set, heard[set], ears.republic.depthOf(sleeper), sleeper);
                    }
                }
            }
        }

        /** Each clock of a set rings by itself: a sleeper counts whom the loudest of them wakes. */
        void ringAlone(Ears ears, Morning morning) {
            clearSets(morning.woundClocks());
            for (int sleeper = 0; sleeper < ears.republic.sleepers; sleeper++) {
                if (morning.sleeps(sleeper)) {
                    listen(ears, morning, sleeper);
                    for (int set = 1; set < SETS; set++) {
                        int noise = at(noises, Integer.numberOfTrailingZeros(set));
                        heard[set] = Math.max(at(heard, set & set - 1), noise);
                        addWaker(set, heard[set], ears.republic.depthOf(sleeper), sleeper);
                    }
                }
            }
        }

        private void clearSets(int wound) {
            for (int set = 0; set < SETS; set++) {
                woken[set] = (set & ~wound) == 0 ? 0 : NONE;
            }
        }

        private void listen(Ears ears, Morning morning, int sleeper) {
            for (int clock = 0; clock < MOST_CLOCKS; clock++) {
                noises[clock] = clock < ears.republic.clocks ? ears.heard(morning, sleeper, 1 << clock) : 0;
            }
        }

        private void addWaker(int set, int noise, int depth, int sleeper) {
            if (noise >= depth && at(woken, set) != NONE) {
                put(woken, set, at(woken, set) | 1 << sleeper);
            }
        }

        /** Whether just the wanted ones wake, of those who are looked at. */
        private boolean fits(int set, int lookedAt, int wanted) {
            int bits = at(woken, set);
            return bits != NONE && (bits & lookedAt) == wanted;
        }

        int fewest(int lookedAt, int wanted) {
            int best = NONE;
            for (int set = 0; set < SETS; set++) {
                if (fits(set, lookedAt, wanted) && (best == NONE || Integer.bitCount(set) < Integer.bitCount(best))) {
                    best = set;
                }
            }
            return best;
        }

        int howMany(int lookedAt, int wanted) {
            int many = 0;
            for (int set = 0; set < SETS; set++) {
                many += fits(set, lookedAt, wanted) ? 1 : 0;
            }
            return many;
        }

        int least(int lookedAt, int wanted) {
            for (int set = 0; set < SETS; set++) {
                if (fits(set, lookedAt, wanted)) {
                    return set;
                }
            }
            return NONE;
        }

        int inAll(int lookedAt, int wanted) {
            int sure = least(lookedAt, wanted);
            for (int set = 0; set < SETS; set++) {
                sure &= fits(set, lookedAt, wanted) ? set : sure;
            }
            return Math.max(0, sure);
        }
    }

    /** A YEAR that is drawn by a seed, told from a morning that stays as it is. */
    private static final class Year {
        private final Morning morning = new Morning();
        private final Morning before = new Morning();
        private int seed = 0;
        private int wakings = 0;

        void begin(Morning now, int firstSeed) {
            morning.copyFrom(now);
            before.copyFrom(now);
            seed = firstSeed;
            wakings = 0;
        }

        void pass(Ears ears, int days, int q) {
            for (int day = 0; day < days; day++) {
                if (ears.republic.clocks > 0) {
                    drawChores(ears.republic.clocks, q);
                }
                for (int hour = 0; hour < HOURS; hour++) {
                    wakings += Integer.bitCount(ears.passHour(morning));
                }
            }
        }

        private void drawChores(int clocks, int q) {
            int clock = drawn(clocks);
            morning.setClock(clock, drawn(HOURS));
            if (drawn(16) < q) {
                morning.turnSock(clock);
            }
            if (drawn(16) < q) {
                morning.windUp(clock);
            }
        }

        private int drawn(int by) {
            seed = seed * 1103515245 + 12345;
            int bits = seed >>> 16 & 32767;
            return by > 0 ? bits % by : 0;
        }

        int daysLedInIt(int sleeper) {
            return morning.daysLed(sleeper) - before.daysLed(sleeper);
        }

        int oftenestLeader() {
            int best = NONE;
            int most = 0;
            for (int sleeper = 0; sleeper < MOST_SLEEPERS; sleeper++) {
                if (daysLedInIt(sleeper) > most) {
                    best = sleeper;
                    most = daysLedInIt(sleeper);
                }
            }
            return best;
        }
    }
}
