import java.util.function.IntUnaryOperator;

/** The sentences of the fifteen promises that name a boundary case: a test for each of them. */
public final class EdgesTest {
    private static final Check CHECK = new Check();
    /** No record, copy, person or file has one of these numbers. */
    private static final int[] NO_NUMBERS = {Integer.MIN_VALUE, Integer.MIN_VALUE + 1, -21, -20, -2, -1, 0, 21, 22, 41,
        256, 257, 65537, Integer.MAX_VALUE - 1, Integer.MAX_VALUE};
    /** Nothing is ever at one of these places. */
    private static final int[] NO_PLACES = {Integer.MIN_VALUE, Integer.MIN_VALUE + 1, -200, -20, -2, -1, 200, 256,
        65536, Integer.MAX_VALUE - 1, Integer.MAX_VALUE};

    public static void main(String[] args) {
        newObjectHasNoActs();
        newObjectRefuses();
        eventAnswersHowMany();
        eventWrongTwice();
        countsPlaces();
        countsOrder();
        eventsEdges();
        refusedEdges();
        stateNumbers();
        stateWhats();
        stateDays();
        stateCopiesThere();
        headingPlaces();
        headingRecords();
        headingByNumbers();
        questionBounds();
        questionWithoutZero();
        questionNoneAndAllRecords();
        hitBeforeAnyQuestion();
        hitPlaces();
        hitBehindNone();
        hitBehindAnEmptyQuestion();
        hitAsItWasFound();
        dueBounds();
        queuePlaces();
        queueRecords();
        fullQueuesSideBySide();
        pollMoreThanHalf();
        pollSums();
        pollFiles();
        keptPersonsAndPlaces();
        keptActsThatCount();
        keptNotBelow();
        keptFarDays();
        mostPersons();
        mostBehindAnyAct();
        mostWith100And101();
        leastAnswers();
        leastPlaces();
        leastWith30And31();
        whenAllActsAreDone();
        CHECK.end();
    }

    private static void due(String call, long got, long want) {
        CHECK.due(call, got, want);
    }

    private static PlainLibrary with(long[]... acts) {
        return CHECK.with(acts);
    }

    private static long[] act(long sort, long a, long b, long day) {
        return Check.act(sort, a, b, day);
    }

    private static void all(String name, int[] numbers, int want, IntUnaryOperator call) {
        for (int n : numbers) {
            due(name + " of " + n, call.applyAsInt(n), want);
        }
    }

    // ---- Promise 1

    /** Each question goes to an object of its own, so that none is helped by one ahead of it. */
    private static void newObjectHasNoActs() {
        CHECK.says("PlainLibrary(): No acts");
        due("events()", new PlainLibrary().events(), 0);
        due("refused()", new PlainLibrary().refused(), 0);
        due("counts(0)", new PlainLibrary().counts(0), -1);
        due("hit(0)", new PlainLibrary().hit(0), -1);
        due("least()", new PlainLibrary().least(), 0);
        due("question(1, 0)", new PlainLibrary().question(1, 0), 0);
        due("question(99, 99)", new PlainLibrary().question(99, 99), 0);
        for (int n = 1; n <= 20; n++) {
            for (int what = 0; what <= 3; what++) {
                due("state(" + what + ", " + n + ", 0)", new PlainLibrary().state(what, n, 0), 0);
                due("state(" + what + ", " + n + ", 1000000)", new PlainLibrary().state(what, n, 1000000), 0);
            }
            due("heading(" + n + ", 0)", new PlainLibrary().heading(n, 0), -1);
            due("due(" + n + ")", new PlainLibrary().due(n), -1);
            due("queue(" + n + ", 0)", new PlainLibrary().queue(n, 0), -1);
            due("poll(" + n + ")", new PlainLibrary().poll(n), -1);
            due("kept(" + n + ", 0, 0, 0)", new PlainLibrary().kept(n, 0, 0, 0), -1);
            due("most(" + n + ")", new PlainLibrary().most(n), 0);
        }
    }

    private static void newObjectRefuses() {
        CHECK.says("PlainLibrary(): No acts");
        all("counts", NO_PLACES, -1, i -> new PlainLibrary().counts(i));
        all("hit", NO_PLACES, -1, i -> new PlainLibrary().hit(i));
        all("state", NO_NUMBERS, -1, n -> new PlainLibrary().state(0, n, 0));
        all("heading", NO_NUMBERS, -1, n -> new PlainLibrary().heading(n, 0));
        all("due", NO_NUMBERS, -1, n -> (int) new PlainLibrary().due(n));
        all("queue", NO_NUMBERS, -1, n -> new PlainLibrary().queue(n, 0));
        all("poll", NO_NUMBERS, -1, n -> new PlainLibrary().poll(n));
        all("kept", NO_NUMBERS, -1, n -> new PlainLibrary().kept(n, 0, 0, 0));
        all("most", NO_NUMBERS, -1, n -> new PlainLibrary().most(n));
        PlainLibrary x = new PlainLibrary();
        due("event(-1, 1, 1, 1)", x.event(-1, 1, 1, 1), 0);
        due("the first act behind a refused one", x.event(0, 1, 1, 1), 1);
    }

    // ---- Promise 2 (the bounds of its numbers are in TermsTest)

    private static void eventAnswersHowMany() {
        CHECK.says("An act more: how many there are");
        PlainLibrary x = new PlainLibrary();
        for (int i = 1; i <= 200; i++) {
            due("event " + i, x.event(i % 11, 1 + i % 9, 1 + i % 5, (i * 7919L) % 1000001), i);
        }
        due("the 201st", x.event(0, 1, 1, 0), 0);
    }

    private static void eventWrongTwice() {
        CHECK.says("0 if there is no such sort, day, or number");
        PlainLibrary x = new PlainLibrary();
        int[] ints = {Integer.MIN_VALUE, -1, 11, Integer.MAX_VALUE};
        long[] longs = {Long.MIN_VALUE, Integer.MIN_VALUE, -1, 1000001, Integer.MAX_VALUE, Long.MAX_VALUE};
        for (int sort : ints) {
            for (long n : longs) {
                due("event(" + sort + ", " + n + ", ..)", x.event(sort, n, n, n), 0);
                due("event(" + sort + ", 1, 1, " + n + ")", x.event(sort, 1, 1, n), 0);
                due("event(" + sort + ", " + n + ", 1, 1)", x.event(sort, n, 1, 1), 0);
                due("event(" + sort + ", 1, " + n + ", 1)", x.event(sort, 1, n, 1), 0);
            }
        }
        for (int sort = 0; sort <= 10; sort++) {
            for (long n : longs) {
                due("event(" + sort + ", " + n + ", ..)", x.event(sort, n, n, n), 0);
                due("event(" + sort + ", " + n + ", 1, 1)", x.event(sort, n, 1, 1), 0);
                due("event(" + sort + ", 1, 1, " + n + ")", x.event(sort, 1, 1, n), 0);
            }
        }
        due("events()", x.events(), 0);
        due("the number for 10 is not that for 9", x.event(10, 20, 1, 1), 0);
        due("the number for 9 is not that for 10", x.event(9, 0, 1, 1), 0);
        due("the number for 2 is not that for 0", x.event(2, 1, 99, 1), 0);
        due("the number for 8 is not that for 6", x.event(8, 1, 20, 1), 0);
        due("a class that is no store", x.event(7, 1, 0, 1), 0);
        due("days that are no class", x.event(9, 1, 28, 1), 0);
    }

    // ---- Promise 3

    private static void countsPlaces() {
        CHECK.says("counts: NONE if there is none such");
        PlainLibrary x = with(act(4, 1, 0, 5), act(9, 1, 1, 6));
        due("counts(0)", x.counts(0), 0);
        due("counts(1)", x.counts(1), 1);
        due("counts(2)", x.counts(2), -1);
        all("counts", NO_PLACES, -1, x::counts);
        PlainLibrary full = new PlainLibrary();
        for (int i = 0; i < 200; i++) {
            full.event(i == 0 || i == 199 ? 4 : 9, 1, 1, i);
        }
        due("full: counts(0)", full.counts(0), 0);
        due("full: counts(1)", full.counts(1), 1);
        due("full: counts(198)", full.counts(198), 1);
        due("full: counts(199)", full.counts(199), 0);
        all("full: counts", NO_PLACES, -1, full::counts);
    }

    private static void countsOrder() {
        CHECK.says("the i-th act in the order in which they count, from 0 on");
        PlainLibrary x = with(act(4, 1, 0, 1000000), act(9, 1, 1, 0), act(4, 1, 0, 500), act(9, 1, 1, 500));
        CHECK.verdicts("by days, not as entered", x, 1, 0, 1, 0);
    }

    // ---- Promises 4 and 5

    private static void eventsEdges() {
        CHECK.says("How many acts there are");
        PlainLibrary x = new PlainLibrary();
        due("none", x.events(), 0);
        x.event(4, 1, 0, 5);
        due("a void one is one", x.events(), 1);
        x.event(4, 0, 0, 5);
        due("a refused one is none", x.events(), 1);
        for (int i = 2; i <= 200; i++) {
            x.event(9, 1, 1, 5);
            due("events()", x.events(), i);
        }
        x.event(9, 1, 1, 5);
        due("behind the 201st", x.events(), 200);
    }

    private static void refusedEdges() {
        CHECK.says("How many acts are VOID");
        PlainLibrary x = new PlainLibrary();
        for (int i = 1; i <= 200; i++) {
            x.event(4, 1, 0, 5);
            due("all are void", x.refused(), i);
        }
        x.event(4, 1, 0, 5);
        due("one that is not taken is not void", x.refused(), 200);
        PlainLibrary y = with(act(9, 1, 1, 5));
        due("none is void", y.refused(), 0);
        y.event(4, 0, 0, 5);
        y.event(4, 1, 0, 1000001);
        due("those that are not taken are not void", y.refused(), 0);
    }

    // ---- Promise 6

    private static PlainLibrary allCopies() {
        PlainLibrary x = new PlainLibrary();
        for (int n = 1; n <= 20; n++) {
            x.event(2, n, 21 - n, 1);
            x.event(3, n, n, 2);
            x.event(9, n, n % 10, 1);
        }
        return x;
    }

    private static void stateNumbers() {
        CHECK.says("state: NONE for no such n");
        PlainLibrary x = allCopies();
        for (int n = 1; n <= 20; n++) {
            due("state(0, " + n + ", 2)", x.state(0, n, 2), 21 - n);
            due("state(1, " + n + ", 2)", x.state(1, n, 2), n);
            due("state(2, " + n + ", 2)", x.state(2, n, 2), n % 10);
            due("state(3, " + n + ", 1)", x.state(3, n, 1), 1);
            due("state(3, " + n + ", 2)", x.state(3, n, 2), 0);
        }
        for (int w = 0; w <= 3; w++) {
            int what = w;
            all("state(" + what + ", .., 2)", NO_NUMBERS, -1, n -> x.state(what, n, 2));
        }
    }

    private static void stateWhats() {
        CHECK.says("state: NONE for .. another what");
        PlainLibrary x = allCopies();
        int[] others = {Integer.MIN_VALUE, Integer.MIN_VALUE + 1, -2, -1, 4, 5, 256, 65536, Integer.MAX_VALUE};
        for (int n = 1; n <= 20; n += 19) {
            int number = n;
            all("what, n " + n, others, -1, what -> x.state(what, number, 2));
        }
        all("what, no such n either", others, -1, what -> x.state(what, 21, 2));
        all("what, no such n either", others, -1, what -> x.state(what, 0, 2));
        due("what 0 is there", x.state(0, 1, 2), 20);
        due("what 3 is there", x.state(3, 1, 1), 1);
    }

    private static void stateDays() {
        CHECK.says("THE STATE ON A DAY");
        PlainLibrary x = with(act(9, 1, 1, 0), act(9, 1, 2, 1), act(9, 1, 3, 1000000));
        due("day 0", x.state(2, 1, 0), 1);
        due("day 1", x.state(2, 1, 1), 2);
        due("day 2", x.state(2, 1, 2), 2);
        due("day 999999", x.state(2, 1, 999999), 2);
        due("day 1000000", x.state(2, 1, 1000000), 3);
        // NONE is due for no such n and another what alone: any day has what acts up to it make.
        long[] behind = {1000001, Integer.MAX_VALUE, Integer.MAX_VALUE + 1L, 1L << 32, Long.MAX_VALUE};
        for (long day : behind) {
            due("day " + day, x.state(2, 1, day), 3);
        }
        long[] ahead = {-1, Integer.MIN_VALUE, Integer.MIN_VALUE - 1L, -(1L << 32), 1 - (1L << 32), Long.MIN_VALUE};
        for (long day : ahead) {
            due("day " + day, x.state(2, 1, day), 0);
        }
    }

    private static void stateCopiesThere() {
        CHECK.says("3: of record n how many copies are there and not lent");
        PlainLibrary x = new PlainLibrary();
        for (int copy = 1; copy <= 20; copy++) {
            x.event(2, copy, 20, copy);
            x.event(3, copy, 1, 20 + copy);
            x.event(4, copy, 1, 40 + copy);
            x.event(2, copy, 19, 60 + copy);
        }
        for (int i = 0; i <= 20; i++) {
            due("told: " + i, x.state(3, 20, i), i);
            due("lent: " + i, x.state(3, 20, 20 + i), 20 - i);
            due("back: " + i, x.state(3, 20, 40 + i), i);
            due("of another record then: " + i, x.state(3, 20, 60 + i), 20 - i);
            due("of that record: " + i, x.state(3, 19, 60 + i), i);
        }
    }

    // ---- Promise 7

    private static void headingPlaces() {
        CHECK.says("the i-th heading of a record, from 0 on; NONE");
        PlainLibrary x = with(act(0, 1, 50, 1));
        due("heading(1, 0)", x.heading(1, 0), 50);
        due("heading(1, 1)", x.heading(1, 1), -1);
        all("heading(1, ..)", NO_PLACES, -1, i -> x.heading(1, i));
        PlainLibrary all = new PlainLibrary();
        for (int heading = 99; heading >= 1; heading--) {
            all.event(0, 20, heading, 1);
        }
        for (int i = 0; i <= 98; i++) {
            due("all: heading(20, " + i + ")", all.heading(20, i), i + 1);
        }
        due("all: heading(20, 99)", all.heading(20, 99), -1);
        all("all: heading(20, ..)", NO_PLACES, -1, i -> all.heading(20, i));
        due("all: heading(19, 0)", all.heading(19, 0), -1);
    }

    private static void headingRecords() {
        CHECK.says("heading of a record; NONE");
        PlainLibrary x = new PlainLibrary();
        for (int record = 1; record <= 20; record++) {
            x.event(0, record, record + 50, 1);
        }
        for (int record = 1; record <= 20; record++) {
            due("heading(" + record + ", 0)", x.heading(record, 0), record + 50);
        }
        all("heading", NO_NUMBERS, -1, n -> x.heading(n, 0));
    }

    private static void headingByNumbers() {
        CHECK.says("the i-th heading of a record .. by their numbers");
        PlainLibrary x = with(act(0, 1, 65, 1), act(0, 1, 99, 2), act(0, 1, 1, 3), act(0, 1, 63, 4), act(0, 1, 64, 5),
                act(0, 1, 2, 6), act(0, 1, 98, 7));
        int[] wants = {1, 2, 63, 64, 65, 98, 99, -1};
        for (int i = 0; i < wants.length; i++) {
            due("heading(1, " + i + ")", x.heading(1, i), wants[i]);
        }
        x.event(1, 1, 1, 8);
        x.event(1, 1, 64, 8);
        x.event(1, 1, 99, 8);
        int[] left = {2, 63, 65, 98, -1};
        for (int i = 0; i < left.length; i++) {
            due("some no more: heading(1, " + i + ")", x.heading(1, i), left[i]);
        }
    }

    // ---- Promise 8

    private static void questionBounds() {
        CHECK.says("question: NONE if the first is not 1 .. 99, the other not 0 .. 99");
        PlainLibrary x = with(act(0, 1, 1, 1), act(0, 2, 99, 1), act(0, 3, 1, 1), act(0, 3, 99, 1));
        due("question(1, 0)", x.question(1, 0), 2);
        due("question(99, 0)", x.question(99, 0), 2);
        due("question(1, 99)", x.question(1, 99), 1);
        due("question(99, 1)", x.question(99, 1), 1);
        due("question(99, 99)", x.question(99, 99), 0);
        due("question(2, 0)", x.question(2, 0), 0);
        due("question(98, 0)", x.question(98, 0), 0);
        int[] notFirst = {Integer.MIN_VALUE, -99, -1, 0, 100, 101, 128, 129, 257, Integer.MAX_VALUE};
        int[] notOther = {Integer.MIN_VALUE, -99, -1, 100, 101, 128, 256, Integer.MAX_VALUE};
        all("question(.., 0)", notFirst, -1, h -> x.question(h, 0));
        all("question(.., 99)", notFirst, -1, h -> x.question(h, 99));
        all("question(1, ..)", notOther, -1, w -> x.question(1, w));
        all("question(99, ..)", notOther, -1, w -> x.question(99, w));
        all("both", notOther, -1, n -> x.question(n, n));
    }

    private static void questionWithoutZero() {
        CHECK.says("the other one 0: whatever others");
        PlainLibrary x = new PlainLibrary();
        for (int heading = 1; heading <= 99; heading++) {
            x.event(0, 7, heading, 1);
        }
        for (int heading = 1; heading <= 99; heading++) {
            due("question(" + heading + ", 0)", x.question(heading, 0), 1);
            due("question(" + heading + ", " + (100 - heading) + ")", x.question(heading, 100 - heading), 0);
        }
    }

    private static void questionNoneAndAllRecords() {
        CHECK.says("How many records have one heading and not another one");
        PlainLibrary x = new PlainLibrary();
        for (int record = 20; record >= 1; record--) {
            due("have it so far", x.question(64, 0), 20 - record);
            x.event(0, record, 64, 1);
        }
        due("all have it", x.question(64, 65), 20);
        for (int record = 1; record <= 20; record++) {
            due("hit(" + (record - 1) + ")", x.hit(record - 1), record);
        }
        due("hit(20)", x.hit(20), -1);
        for (int record = 1; record <= 20; record++) {
            x.event(0, record, 65, 1);
            due("have not the other", x.question(64, 65), 20 - record);
            due("the first of them", x.hit(0), record == 20 ? -1 : record + 1);
        }
    }

    // ---- Promise 9

    private static void hitBeforeAnyQuestion() {
        CHECK.says("hit: of the latest question() that was not NONE; NONE");
        PlainLibrary x = with(act(0, 1, 1, 1));
        due("hit(0), no question yet", x.hit(0), -1);
        all("hit, no question yet", NO_PLACES, -1, x::hit);
        due("a question that is NONE", x.question(0, 0), -1);
        due("hit(0), only a question that was NONE", x.hit(0), -1);
    }

    private static void hitPlaces() {
        CHECK.says("The i-th record, from 0 on; NONE");
        PlainLibrary x = with(act(0, 20, 1, 1), act(0, 1, 1, 1), act(0, 9, 1, 1));
        due("question(1, 0)", x.question(1, 0), 3);
        due("hit(0)", x.hit(0), 1);
        due("hit(1)", x.hit(1), 9);
        due("hit(2)", x.hit(2), 20);
        due("hit(3)", x.hit(3), -1);
        due("hit(19)", x.hit(19), -1);
        due("hit(20)", x.hit(20), -1);
        all("hit", NO_PLACES, -1, x::hit);
    }

    private static void hitBehindNone() {
        CHECK.says("of the latest question() that was not NONE");
        PlainLibrary x = with(act(0, 3, 1, 1), act(0, 4, 2, 1), act(0, 5, 1, 1));
        int[][] none = {{0, 0}, {100, 0}, {1, -1}, {1, 100}, {Integer.MIN_VALUE, 0}, {Integer.MAX_VALUE, 0},
            {1, Integer.MIN_VALUE}, {1, Integer.MAX_VALUE}, {0, 100}};
        due("question(1, 0)", x.question(1, 0), 2);
        for (int[] q : none) {
            due("question(" + q[0] + ", " + q[1] + ")", x.question(q[0], q[1]), -1);
            due("hit(0) behind it", x.hit(0), 3);
            due("hit(1) behind it", x.hit(1), 5);
            due("hit(2) behind it", x.hit(2), -1);
        }
    }

    private static void hitBehindAnEmptyQuestion() {
        CHECK.says("of the latest question() that was not NONE");
        PlainLibrary x = with(act(0, 3, 1, 1), act(0, 5, 1, 1), act(0, 4, 2, 1));
        due("question(1, 0)", x.question(1, 0), 2);
        due("question(3, 0)", x.question(3, 0), 0);
        due("hit(0) of a question without any", x.hit(0), -1);
        due("hit(1) of a question without any", x.hit(1), -1);
        due("question(1, 0)", x.question(1, 0), 2);
        due("question(2, 0)", x.question(2, 0), 1);
        due("hit(0) of a question with less", x.hit(0), 4);
        due("hit(1) of a question with less", x.hit(1), -1);
    }

    private static void hitAsItWasFound() {
        CHECK.says("as it was found then");
        PlainLibrary x = with(act(0, 3, 1, 5), act(0, 5, 1, 5));
        due("question(1, 0)", x.question(1, 0), 2);
        x.event(1, 3, 1, 6);
        x.event(0, 4, 1, 0);
        x.event(0, 0, 1, 0);
        x.refused();
        x.state(0, 1, 0);
        x.heading(4, 0);
        x.least();
        x.most(1);
        x.kept(1, 0, 0, 0);
        due("hit(0)", x.hit(0), 3);
        due("hit(1)", x.hit(1), 5);
        due("hit(2)", x.hit(2), -1);
        due("question(1, 0) again", x.question(1, 0), 2);
        due("hit(0) again", x.hit(0), 4);
    }

    // ---- Promise 10

    private static void dueBounds() {
        CHECK.says("The day on which a copy is DUE; NONE if it is not lent");
        PlainLibrary x = new PlainLibrary();
        for (int copy = 1; copy <= 20; copy++) {
            x.event(2, copy, 1, 0);
        }
        for (int copy = 1; copy <= 20; copy++) {
            due("not lent yet: " + copy, x.due(copy), -1);
            x.event(3, copy, 1, 100 + copy);
            due("lent: " + copy, x.due(copy), 128 + copy);
        }
        all("due", NO_NUMBERS, -1, n -> (int) x.due(n));
        for (int copy = 1; copy <= 20; copy++) {
            x.event(4, copy, 1, 1000);
            due("given back: " + copy, x.due(copy), -1);
        }
        due("a copy of no record", new PlainLibrary().due(1), -1);
        due("a loan that is void", with(act(3, 1, 1, 1)).due(1), -1);
    }

    // ---- Promise 11

    private static void queuePlaces() {
        CHECK.says("The i-th person, from 0 on, in a record's QUEUE; NONE");
        PlainLibrary x = new PlainLibrary();
        for (int i = 0; i < 20; i++) {
            due("queue(1, " + i + "), not yet", x.queue(1, i), -1);
            x.event(5, 1, 20 - i, 1);
            due("queue(1, " + i + ")", x.queue(1, i), 20 - i);
        }
        due("full: queue(1, 20)", x.queue(1, 20), -1);
        due("full: queue(2, 0)", x.queue(2, 0), -1);
        all("full: queue(1, ..)", NO_PLACES, -1, i -> x.queue(1, i));
        for (int person = 1; person <= 20; person++) {
            x.event(5, 1, person, 2);
        }
        due("who stands in a full one does not stand in it again", x.refused(), 20);
        due("full: queue(1, 20)", x.queue(1, 20), -1);
        for (int i = 20; i >= 1; i--) {
            due("the first", x.queue(1, 0), i);
            x.event(6, 1, i, 3);
            due("the last place is none", x.queue(1, i - 1), -1);
        }
        due("empty: queue(1, 0)", x.queue(1, 0), -1);
        due("all that left counted", x.refused(), 20);
    }

    private static void queueRecords() {
        CHECK.says("in a record's QUEUE; NONE");
        PlainLibrary x = new PlainLibrary();
        for (int record = 1; record <= 20; record++) {
            x.event(5, record, 21 - record, 1);
            x.event(5, record, 1 + record % 20, 1);
        }
        for (int record = 1; record <= 20; record++) {
            due("queue(" + record + ", 0)", x.queue(record, 0), 21 - record);
            boolean same = 21 - record == 1 + record % 20;
            due("queue(" + record + ", 1)", x.queue(record, 1), same ? -1 : 1 + record % 20);
            due("queue(" + record + ", 2)", x.queue(record, 2), -1);
        }
        all("queue", NO_NUMBERS, -1, n -> x.queue(n, 0));
    }

    /** The last place of one queue is next to the first of another: neither answers for the other. */
    private static void fullQueuesSideBySide() {
        CHECK.says("The i-th person, from 0 on, in a record's QUEUE");
        int[] outs = {1, 10, 19, 20};
        for (int out : outs) {
            PlainLibrary x = new PlainLibrary();
            for (int person = 1; person <= 20; person++) {
                x.event(5, 18, person, 1);
                x.event(5, 19, person, 1);
                x.event(5, 20, person, 1);
            }
            due("all stand in all three", x.refused(), 0);
            for (int record = 18; record <= 20; record++) {
                x.event(5, record, 20, 2);
                x.event(5, record, 1, 2);
            }
            due("nobody stands in one twice", x.refused(), 6);
            x.event(6, 19, out, 3);
            x.event(6, 20, out, 3);
            due("who stands in it can leave", x.refused(), 6);
            for (int i = 0; i < 20; i++) {
                int behind = i == 19 ? -1 : i + 1 < out ? i + 1 : i + 2;
                due(out + " left: queue(18, " + i + ")", x.queue(18, i), i + 1);
                due(out + " left: queue(19, " + i + ")", x.queue(19, i), behind);
                due(out + " left: queue(20, " + i + ")", x.queue(20, i), behind);
            }
        }
    }

    // ---- Promise 12

    /** A store for each sum; days tell the sums, so store k gets its own on a day of its own. */
    private static int pollOf(int... sums) {
        PlainLibrary x = new PlainLibrary();
        for (int k = 0; k < sums.length; k++) {
            x.event(7, 20, k + 1, 70 * k + sums[k]);
        }
        return x.poll(20);
    }

    private static void pollMoreThanHalf() {
        CHECK.says("THE SUM of a file that more than half of the stores that have it have; 7 if there is none such");
        due("1 of 1", pollOf(3), 3);
        due("1 of 2", pollOf(3, 4), 7);
        due("2 of 2", pollOf(3, 3), 3);
        due("1 of 3", pollOf(3, 4, 5), 7);
        due("2 of 3", pollOf(3, 4, 4), 4);
        due("3 of 3", pollOf(4, 4, 4), 4);
        due("2 of 4, and 2", pollOf(3, 3, 4, 4), 7);
        due("2 of 4, and 1, 1", pollOf(3, 3, 4, 5), 7);
        due("3 of 4", pollOf(3, 3, 4, 3), 3);
        due("4 of 4", pollOf(5, 5, 5, 5), 5);
        due("2 of 5, and 2, 1", pollOf(3, 3, 4, 4, 5), 7);
        due("2 of 5, and 1, 1, 1", pollOf(0, 0, 1, 2, 3), 7);
        due("3 of 5", pollOf(6, 0, 6, 0, 6), 6);
        due("4 of 5", pollOf(6, 0, 6, 6, 6), 6);
        due("5 of 5", pollOf(6, 6, 6, 6, 6), 6);
        due("1 of 5", pollOf(0, 1, 2, 3, 4), 7);
        PlainLibrary x = with(act(7, 1, 1, 1), act(7, 1, 2, 2), act(8, 1, 1, 3));
        due("a store that has lost it is none of them", x.poll(1), 2);
        x.event(8, 1, 2, 3);
        due("no store has it any more", x.poll(1), -1);
    }

    private static void pollSums() {
        CHECK.says("THE SUM of a file .. 0 .. 6");
        for (int sum = 0; sum <= 6; sum++) {
            due("one store", pollOf(sum), sum);
            due("two of three", pollOf(sum, (sum + 1) % 7, sum), sum);
            due("three of five", pollOf((sum + 1) % 7, (sum + 2) % 7, sum, sum, sum), sum);
            due("half", pollOf(sum, (sum + 6) % 7), 7);
        }
    }

    private static void pollFiles() {
        CHECK.says("poll: NONE if no store has it");
        PlainLibrary x = new PlainLibrary();
        for (int file = 1; file <= 20; file++) {
            due("poll(" + file + "), not yet", x.poll(file), -1);
            x.event(7, file, 1 + file % 5, 700 + file % 7);
            due("poll(" + file + ")", x.poll(file), file % 7);
        }
        all("poll", NO_NUMBERS, -1, x::poll);
        for (int file = 1; file <= 20; file++) {
            x.event(8, file, 1 + file % 5, 800);
            due("poll(" + file + "), lost", x.poll(file), -1);
        }
    }

    // ---- Promise 13

    private static void keptPersonsAndPlaces() {
        CHECK.says("kept: the copy of the i-th, from 0 on; NONE if there is none such");
        PlainLibrary x = new PlainLibrary();
        for (int n = 1; n <= 20; n++) {
            x.event(2, n, n, 0);
            x.event(3, n, 21 - n, 1);
            x.event(4, n, n, 2);
        }
        for (int person = 1; person <= 20; person++) {
            due("kept(" + person + ", 0)", x.kept(person, 0, 0, 0), 21 - person);
            due("kept(" + person + ", 1)", x.kept(person, 1, 0, 0), -1);
        }
        all("kept, no such person", NO_NUMBERS, -1, n -> x.kept(n, 0, 0, 0));
        all("kept, no such place", NO_PLACES, -1, i -> x.kept(1, i, 0, 0));
        PlainLibrary often = with(act(2, 20, 1, 0));
        for (int i = 0; i < 99; i++) {
            often.event(3, 20, 20, i);
            often.event(4, 20, 20, i);
        }
        due("often: the first", often.kept(20, 0, 0, 0), 20);
        due("often: the last", often.kept(20, 98, 0, 0), 20);
        due("often: one behind", often.kept(20, 99, 0, 0), -1);
        due("often: the last by its day", often.kept(20, 0, 98, 0), 20);
        due("often: no second by that day", often.kept(20, 1, 98, 0), -1);
    }

    private static void keptActsThatCount() {
        CHECK.says("Of the acts that COUNT by which a copy was given back that a person had, in their order");
        PlainLibrary x = with(act(4, 1, 7, 0), act(2, 1, 1, 1), act(4, 1, 7, 2), act(3, 1, 7, 3), act(4, 1, 7, 4),
                act(4, 1, 7, 5), act(3, 1, 8, 6));
        due("one counts", x.kept(7, 0, 0, 0), 1);
        due("void ones are none", x.kept(7, 1, 0, 0), -1);
        due("what is lent yet is not given back", x.kept(8, 0, 0, 0), -1);
        PlainLibrary y = with(act(2, 1, 1, 0), act(2, 2, 1, 0), act(2, 3, 1, 0), act(3, 1, 7, 1), act(3, 2, 7, 1),
                act(3, 3, 7, 1), act(4, 3, 0, 9), act(4, 2, 0, 10), act(4, 1, 0, 9));
        int[] wants = {3, 1, 2, -1};
        for (int i = 0; i < wants.length; i++) {
            due("by days, of one day as entered: kept(7, " + i + ")", y.kept(7, i, 0, 0), wants[i]);
        }
        y.event(4, 2, 0, 5);
        due("one entered later is the first", y.kept(7, 0, 0, 0), 2);
        due("and the one behind it is void", y.kept(7, 3, 0, 0), -1);
        y.event(5, 1, 9, 0);
        due("the loans are void, and so is the giving back", y.kept(7, 0, 0, 0), -1);
    }

    private static void keptNotBelow() {
        CHECK.says("those whose day and days more is not below day");
        PlainLibrary x = with(act(2, 1, 1, 0), act(3, 1, 7, 0), act(4, 1, 0, 100));
        int[] days = {0, 1, -1, 10, -10, -100, -101, 1000000, Integer.MAX_VALUE, Integer.MIN_VALUE};
        for (int more : days) {
            long sum = 100L + more;
            due("just: " + more, x.kept(7, 0, sum, more), 1);
            due("one above: " + more, x.kept(7, 0, sum - 1, more), 1);
            due("one below: " + more, x.kept(7, 0, sum + 1, more), -1);
        }
        PlainLibrary ends = with(act(2, 1, 1, 0), act(2, 2, 1, 0), act(3, 1, 7, 0), act(3, 2, 7, 0), act(4, 1, 0, 0),
                act(4, 2, 0, 1000000));
        due("day 0, not below", ends.kept(7, 0, 0, 0), 1);
        due("day 0, below", ends.kept(7, 0, 1, 0), 2);
        due("the last day, not below", ends.kept(7, 0, 1000000, 0), 2);
        due("the last day, below", ends.kept(7, 0, 1000001, 0), -1);
    }

    private static void keptFarDays() {
        CHECK.says("whose day and days more (a long)");
        PlainLibrary x = with(act(2, 1, 1, 0), act(3, 1, 7, 0), act(4, 1, 0, 1000000));
        long greatest = 1000000L + Integer.MAX_VALUE;
        long least = 1000000L + Integer.MIN_VALUE;
        due("the greatest sum", x.kept(7, 0, greatest, Integer.MAX_VALUE), 1);
        due("above the greatest sum", x.kept(7, 0, greatest + 1, Integer.MAX_VALUE), -1);
        due("it does not wrap", x.kept(7, 0, 0, Integer.MAX_VALUE), 1);
        due("the least sum", x.kept(7, 0, least, Integer.MIN_VALUE), 1);
        due("above the least sum", x.kept(7, 0, least + 1, Integer.MIN_VALUE), -1);
        long[] below = {Long.MIN_VALUE, Long.MIN_VALUE + 1, Integer.MIN_VALUE - 1L};
        int[] any = {Integer.MIN_VALUE, -1, 0, 1, Integer.MAX_VALUE};
        for (int more : any) {
            for (long day : below) {
                due("kept(7, 0, " + day + ", " + more + ")", x.kept(7, 0, day, more), 1);
            }
            due("kept(7, 0, max, " + more + ")", x.kept(7, 0, Long.MAX_VALUE, more), -1);
            due("kept(7, 0, 2^32, " + more + ")", x.kept(7, 0, 1L << 32, more), -1);
        }
    }

    // ---- Promise 14

    private static void mostPersons() {
        CHECK.says("most: (0 without); NONE for no such person");
        PlainLibrary x = new PlainLibrary();
        for (int n = 1; n <= 20; n++) {
            x.event(2, n, 1, 0);
        }
        for (int person = 1; person <= 20; person++) {
            due("without: most(" + person + ")", x.most(person), 0);
            x.event(3, person, person, 1);
            due("most(" + person + ")", x.most(person), 1);
        }
        all("most", NO_NUMBERS, -1, x::most);
        due("only void loans", with(act(3, 1, 1, 1)).most(1), 0);
    }

    private static void mostBehindAnyAct() {
        CHECK.says("The greatest number of copies that a person has behind any of the acts");
        PlainLibrary x = new PlainLibrary();
        for (int copy = 1; copy <= 20; copy++) {
            x.event(2, copy, 1, 0);
        }
        for (int copy = 1; copy <= 20; copy++) {
            x.event(3, copy, 20, 5);
            due("copies so far", x.most(20), copy);
        }
        for (int copy = 1; copy <= 20; copy++) {
            x.event(4, copy, 0, 5);
        }
        due("behind an act of the same day", x.most(20), 20);
        due("at the end it has none", x.state(1, 20, 5), 0);
        PlainLibrary y = with(act(2, 1, 1, 0), act(2, 2, 1, 0), act(3, 1, 7, 1), act(4, 1, 0, 2), act(3, 2, 7, 2));
        due("one, and another", y.most(7), 1);
        due("asked again", y.most(7), 1);
        PlainLibrary z = with(act(2, 1, 1, 0), act(2, 2, 1, 0), act(3, 1, 7, 1), act(3, 2, 7, 2), act(4, 1, 0, 2));
        due("one behind the other", z.most(7), 2);
        PlainLibrary last = with(act(2, 1, 1, 0), act(3, 1, 7, 1000000));
        due("behind the last act", last.most(7), 1);
    }

    private static void mostWith100And101() {
        CHECK.says("NONE for no such person; else NOT_TRIED if there are more than 100 acts");
        PlainLibrary x = with(act(2, 1, 1, 0));
        for (int i = 2; i <= 99; i++) {
            x.event(9, 1, 1, 1);
        }
        due("the 100th act", x.event(3, 1, 7, 2), 100);
        due("most(7) with 100", x.most(7), 1);
        due("most(8) with 100", x.most(8), 0);
        due("a refused act more", x.event(3, 0, 7, 2), 0);
        due("most(7) with 100 yet", x.most(7), 1);
        all("most with 100", NO_NUMBERS, -1, x::most);
        due("the 101st act", x.event(9, 1, 1, 3), 101);
        for (int person = 1; person <= 20; person++) {
            due("most(" + person + ") with 101", x.most(person), -9);
        }
        all("most with 101", NO_NUMBERS, -1, x::most);
        PlainLibrary voids = new PlainLibrary();
        for (int i = 1; i <= 101; i++) {
            voids.event(4, 1, 0, 1);
            due("void acts are acts: " + i, voids.most(7), i <= 100 ? 0 : -9);
        }
        for (int i = 102; i <= 200; i++) {
            voids.event(4, 1, 0, 1);
        }
        due("most(7) with 200", voids.most(7), -9);
        due("most(0) with 200", voids.most(0), -1);
    }

    // ---- Promise 15

    private static void leastAnswers() {
        CHECK.says("0, 1 or 2; 3 if that is not enough");
        PlainLibrary x = new PlainLibrary();
        int[] wants = {0, 1, 2, 3, 3, 3};
        for (int i = 0; i < wants.length; i++) {
            due("void acts: " + i, x.least(), wants[i]);
            x.event(4, i + 1, 0, 1);
        }
        PlainLibrary y = new PlainLibrary();
        int[] again = {0, 0, 1, 2, 3, 3};
        for (int i = 0; i < again.length; i++) {
            due("the same heading, times " + i, y.least(), again[i]);
            y.event(0, 1, 1, 1);
        }
    }

    /** The acts to be left out lie at the first, in the middle, at the last, apart and side by side. */
    private static void leastPlaces() {
        CHECK.says("How many acts are to be left out, at least, so that none of those that are left is VOID");
        for (int one = 0; one < 30; one++) {
            for (int other = one; other < 30; other++) {
                PlainLibrary x = new PlainLibrary();
                for (int i = 0; i < 30; i++) {
                    boolean out = i == one || i == other;
                    x.event(out ? 4 : 9, 1, 1, i);
                }
                due("void at " + one + " and " + other, x.least(), one == other ? 1 : 2);
            }
        }
        due("one that counts, for two that do not", with(act(2, 1, 1, 0), act(5, 1, 9, 0), act(3, 1, 7, 1),
                act(4, 1, 0, 2)).least(), 1);
        due("left out, it would void another", with(act(2, 1, 1, 0), act(3, 1, 7, 1), act(3, 1, 8, 2),
                act(4, 1, 0, 3)).least(), 1);
        due("two that count, for many that do not", with(act(2, 1, 1, 0), act(5, 1, 8, 0), act(5, 1, 9, 0),
                act(3, 1, 7, 1), act(4, 1, 0, 2), act(3, 1, 7, 3), act(4, 1, 0, 4)).least(), 2);
        due("one that counts and one that does not", with(act(4, 2, 0, 0), act(2, 1, 1, 0), act(5, 1, 9, 0),
                act(3, 1, 7, 1), act(4, 1, 0, 2)).least(), 2);
        due("three that count are too many", with(act(2, 1, 1, 0), act(5, 1, 8, 0), act(5, 1, 9, 0), act(5, 1, 10, 0),
                act(3, 1, 7, 1), act(4, 1, 0, 2), act(3, 1, 7, 3)).least(), 3);
        due("two at the end, where each ahead is needed", with(act(2, 1, 1, 0), act(3, 1, 7, 1), act(4, 1, 0, 2),
                act(4, 1, 0, 3), act(4, 1, 0, 4)).least(), 2);
        due("lost twice, had once", with(act(7, 1, 1, 0), act(8, 1, 1, 1), act(8, 1, 1, 2)).least(), 1);
        due("by days, not as entered", with(act(3, 1, 7, 5), act(2, 1, 1, 4)).least(), 0);
    }

    private static void leastWith30And31() {
        CHECK.says("NOT_TRIED if there are more than 30 acts");
        PlainLibrary x = new PlainLibrary();
        for (int i = 1; i <= 30; i++) {
            x.event(9, 1, 1, 1);
            due("none void, acts: " + i, x.least(), 0);
        }
        due("a refused act more", x.event(9, 1, 10, 1), 0);
        due("30 yet", x.least(), 0);
        x.event(9, 1, 1, 1);
        due("31", x.least(), -9);
        PlainLibrary voids = new PlainLibrary();
        for (int i = 1; i <= 31; i++) {
            voids.event(4, 1, 0, 1);
            due("all void, acts: " + i, voids.least(), i == 31 ? -9 : Math.min(i, 3));
        }
        PlainLibrary many = new PlainLibrary();
        for (int i = 1; i <= 200; i++) {
            many.event(9, 1, 1, 1);
        }
        due("200", many.least(), -9);
        due("asking leaves the acts", many.events(), 200);
    }

    // ---- Promises 7 to 12

    private static void whenAllActsAreDone() {
        CHECK.says("When all acts are done (as in all that follows but kept() and most())");
        PlainLibrary x = with(act(0, 1, 5, 1000000), act(2, 1, 1, 0), act(5, 1, 8, 999999), act(3, 1, 8, 1000000),
                act(5, 1, 9, 1000000), act(7, 1, 1, 1000000), act(9, 1, 4, 0), act(10, 4, 2, 1000000));
        due("state of the first day alone", x.state(1, 1, 0), 0);
        due("heading(1, 0)", x.heading(1, 0), 5);
        due("state of the first day alone", x.state(1, 1, 0), 0);
        due("question(5, 0)", x.question(5, 0), 1);
        due("state of the first day alone", x.state(1, 1, 0), 0);
        due("due(1)", x.due(1), 1000028);
        due("state of the first day alone", x.state(1, 1, 0), 0);
        due("queue(1, 0)", x.queue(1, 0), 9);
        due("state of the first day alone", x.state(1, 1, 0), 0);
        due("poll(1)", x.poll(1), 1);
    }
}
