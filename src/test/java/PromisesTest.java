/** The promises of the document one by one: ordinary inputs, the edges it names, and wrong inputs. */
public final class PromisesTest {
    private static final Check CHECK = new Check();

    public static void main(String[] args) {
        newObjectHasNoActs();
        eventAnswersTheNumberOfActs();
        eventTakesTheEdgesOfNumbers();
        eventRefusesMoreThan200();
        countsFollowsTheDays();
        countsAloneByThoseAhead();
        voidHeadings();
        voidLoans();
        voidQueueActs();
        voidFileActs();
        actsThatAlwaysCount();
        eventsAndRefused();
        stateOnADay();
        stateOfWrongInputs();
        headings();
        questionsAndHits();
        hitsStayAsFound();
        dueDays();
        queues();
        polls();
        keptReturns();
        keptDays();
        mostCopies();
        mostLimits();
        leastLeftOut();
        leastTakesActsThatCount();
        leastLimits();
        askingLeavesNothingBehind();
        objectsAreApart();
        CHECK.end();
    }

    private static void due(String call, long got, long want) {
        CHECK.due(call, got, want);
    }

    private static PlainLibrary with(long[]... acts) {
        return CHECK.with(acts);
    }

    private static long[] act(long sort, long a, long b, long day) {
        return Check.act(sort, a, b, day);
    }

    private static void verdicts(String name, PlainLibrary x, int... wants) {
        CHECK.verdicts(name, x, wants);
    }

    // Promise 1
    private static void newObjectHasNoActs() {
        PlainLibrary x = new PlainLibrary();
        due("new: events", x.events(), 0);
        due("new: refused", x.refused(), 0);
        due("new: counts", x.counts(0), -1);
        due("new: hit", x.hit(0), -1);
        due("new: most", x.most(1), 0);
        due("new: least", x.least(), 0);
        due("new: question", x.question(1, 0), 0);
        for (int n = 1; n <= 20; n++) {
            due("new: record", x.state(0, n, 1000000), 0);
            due("new: person", x.state(1, n, 1000000), 0);
            due("new: class", x.state(2, n, 1000000), 0);
            due("new: there", x.state(3, n, 1000000), 0);
            due("new: heading", x.heading(n, 0), -1);
            due("new: due", x.due(n), -1);
            due("new: queue", x.queue(n, 0), -1);
            due("new: poll", x.poll(n), -1);
            due("new: kept", x.kept(n, 0, 0, 0), -1);
        }
    }

    // Promise 2
    private static void eventAnswersTheNumberOfActs() {
        PlainLibrary x = new PlainLibrary();
        due("event 1", x.event(0, 1, 1, 5), 1);
        due("a void event is an act too", x.event(0, 1, 1, 5), 2);
        due("event of an earlier day", x.event(4, 1, 1, 0), 3);
        due("a refused one", x.event(0, 1, 0, 5), 0);
        due("event behind a refused one", x.event(9, 1, 0, 1000000), 4);
        due("sort below", x.event(-1, 1, 1, 5), 0);
        due("sort above", x.event(11, 1, 1, 5), 0);
        due("day below", x.event(0, 1, 1, -1), 0);
        due("day above", x.event(0, 1, 1, 1000001), 0);
        due("day far above", x.event(0, 1, 1, (1L << 32) + 5), 0);
        due("event: events", x.events(), 4);
    }

    private static void eventTakesTheEdgesOfNumbers() {
        long[] lowA = {1, 1, 1, 1, 1, 1, 1, 1, 1, 1, 0};
        long[] highA = {20, 20, 20, 20, 20, 20, 20, 20, 20, 20, 9};
        long[] lowB = {1, 1, 1, 1, Long.MIN_VALUE, 1, 1, 1, 1, 0, 1};
        long[] highB = {99, 99, 20, 20, Long.MAX_VALUE, 20, 20, 5, 5, 9, 365};
        long word = 1L << 32;
        for (int sort = 0; sort <= 10; sort++) {
            String name = "edges of sort " + sort;
            PlainLibrary x = new PlainLibrary();
            due(name, x.event(sort, lowA[sort], lowB[sort], 0), 1);
            due(name, x.event(sort, highA[sort], highB[sort], 1000000), 2);
            due(name, x.event(sort, lowA[sort] - 1, lowB[sort], 1), 0);
            due(name, x.event(sort, highA[sort] + 1, lowB[sort], 1), 0);
            due(name, x.event(sort, lowA[sort] + word, lowB[sort], 1), 0);
            due(name, x.event(sort, lowA[sort] - word, lowB[sort], 1), 0);
            if (sort != 4) {
                due(name, x.event(sort, lowA[sort], lowB[sort] - 1, 1), 0);
                due(name, x.event(sort, lowA[sort], highB[sort] + 1, 1), 0);
                due(name, x.event(sort, lowA[sort], lowB[sort] + word, 1), 0);
                due(name, x.event(sort, lowA[sort], lowB[sort] - word, 1), 0);
            }
            due(name, x.events(), 2);
        }
    }

    private static void eventRefusesMoreThan200() {
        PlainLibrary x = new PlainLibrary();
        for (int i = 1; i <= 200; i++) {
            due("200: event " + i, x.event(9, 1, i % 10, 1000 - i), i);
        }
        due("200: one more", x.event(9, 1, 1, 0), 0);
        due("200: one more at the end", x.event(9, 1, 1, 1000000), 0);
        due("200: events", x.events(), 200);
        due("200: refused", x.refused(), 0);
        due("200: the last by days is the first entered", x.state(2, 1, 1000000), 1);
        due("200: the first by days is the last entered", x.state(2, 1, 800), 0);
        due("200: the second by days", x.state(2, 1, 801), 9);
        due("200: counts(199)", x.counts(199), 1);
        due("200: counts(200)", x.counts(200), -1);
        due("200: kept", x.kept(1, 0, 0, 0), -1);
        due("200: most", x.most(1), -9);
        due("200: least", x.least(), -9);
    }

    // Promise 3, and what is VOID
    private static void countsFollowsTheDays() {
        PlainLibrary x = with(act(4, 1, 0, 30), act(3, 1, 7, 20), act(2, 1, 5, 10));
        verdicts("entered backwards", x, 1, 1, 1);
        verdicts("one day, as entered", with(act(3, 1, 7, 10), act(2, 1, 5, 10)), 0, 1);
        verdicts("one day, as entered", with(act(2, 1, 5, 10), act(3, 1, 7, 10)), 1, 1);
        verdicts("behind those of its day", with(act(9, 1, 1, 11), act(2, 1, 5, 10), act(3, 1, 7, 10)), 1, 1, 1);
        due("counts below", x.counts(-1), -1);
        due("counts far below", x.counts(Integer.MIN_VALUE), -1);
        due("counts far above", x.counts(Integer.MAX_VALUE), -1);
    }

    private static void countsAloneByThoseAhead() {
        PlainLibrary x = with(act(3, 1, 7, 20));
        verdicts("without a record", x, 0);
        due("the record, later entered", x.event(2, 1, 5, 10), 2);
        verdicts("with a record", x, 1, 1);
        due("another is first, later entered", x.event(5, 5, 8, 15), 3);
        verdicts("with another first", x, 1, 1, 0);
        due("and is out again", x.event(6, 5, 8, 19), 4);
        verdicts("with nobody first", x, 1, 1, 1, 1);
    }

    private static void voidHeadings() {
        verdicts("headings", with(act(1, 1, 9, 1), act(0, 1, 9, 2), act(0, 1, 9, 3), act(0, 1, 73, 3),
                act(0, 2, 9, 3), act(1, 1, 9, 4), act(1, 1, 9, 5), act(0, 1, 9, 6)), 0, 1, 0, 1, 1, 1, 0, 1);
    }

    private static void voidLoans() {
        verdicts("a copy of no record", with(act(2, 2, 1, 1), act(3, 1, 1, 2), act(4, 1, 1, 3)), 1, 0, 0);
        verdicts("a lent copy, to another or the same",
                with(act(2, 1, 1, 1), act(3, 1, 1, 2), act(3, 1, 2, 3), act(3, 1, 1, 4)), 1, 1, 0, 0);
        verdicts("a lent copy keeps its record",
                with(act(2, 1, 1, 1), act(3, 1, 1, 2), act(2, 1, 2, 3), act(2, 1, 1, 3), act(4, 1, 0, 4),
                        act(2, 1, 2, 5)), 1, 1, 0, 0, 1, 1);
        verdicts("somebody else is first",
                with(act(2, 1, 1, 1), act(5, 1, 3, 2), act(5, 1, 4, 3), act(3, 1, 4, 4), act(3, 1, 9, 4),
                        act(3, 1, 3, 5)), 1, 1, 1, 0, 0, 1);
        verdicts("first in another record's queue", with(act(2, 1, 1, 1), act(5, 2, 3, 2), act(3, 1, 9, 4)), 1, 1, 1);
        verdicts("given back twice",
                with(act(2, 1, 1, 1), act(3, 1, 1, 2), act(4, 1, 9, 3), act(4, 1, 1, 4), act(3, 1, 2, 5)),
                1, 1, 1, 0, 1);
    }

    private static void voidQueueActs() {
        verdicts("queue acts", with(act(6, 1, 2, 1), act(5, 1, 2, 2), act(5, 1, 2, 3), act(6, 2, 2, 4),
                act(6, 1, 3, 4), act(6, 1, 2, 5), act(6, 1, 2, 6), act(5, 1, 2, 7)), 0, 1, 0, 0, 0, 1, 0, 1);
        verdicts("lending takes out of the queue, the holder may stand in it again",
                with(act(2, 1, 1, 1), act(5, 1, 2, 2), act(3, 1, 2, 3), act(6, 1, 2, 4), act(5, 1, 2, 5)),
                1, 1, 1, 0, 1);
    }

    private static void voidFileActs() {
        verdicts("files", with(act(8, 1, 1, 1), act(7, 1, 1, 2), act(7, 1, 1, 2), act(8, 1, 2, 3), act(8, 2, 1, 3),
                act(8, 1, 1, 4), act(8, 1, 1, 5)), 0, 1, 1, 0, 0, 1, 0);
        verdicts("a sum of 0 is a sum", with(act(7, 1, 1, 0), act(8, 1, 1, 0)), 1, 1);
    }

    private static void actsThatAlwaysCount() {
        verdicts("no change, and yet not void", with(act(2, 1, 1, 1), act(2, 1, 1, 1), act(9, 1, 0, 1),
                act(9, 1, 0, 1), act(10, 0, 28, 1), act(10, 0, 28, 1), act(7, 1, 1, 1), act(7, 1, 1, 8)),
                1, 1, 1, 1, 1, 1, 1, 1);
    }

    // Promises 4 and 5
    private static void eventsAndRefused() {
        PlainLibrary x = with(act(3, 1, 1, 5), act(4, 1, 1, 6), act(6, 1, 1, 7));
        due("events", x.events(), 3);
        due("refused", x.refused(), 3);
        x.event(2, 1, 1, 4);
        due("events with the record", x.events(), 4);
        due("refused with the record", x.refused(), 1);
        x.event(5, 1, 2, 4);
        due("refused with another first", x.refused(), 3);
        due("asking alters nothing", x.refused(), 3);
    }

    // Promise 6
    private static void stateOnADay() {
        PlainLibrary x = with(act(2, 20, 20, 10), act(2, 3, 20, 12), act(3, 20, 19, 14), act(9, 20, 9, 14),
                act(4, 20, 0, 16), act(2, 20, 1, 18), act(9, 20, 0, 1000000));
        long[] days = {Long.MIN_VALUE, -1, 0, 9, 10, 12, 13, 14, 15, 16, 17, 18, 999999, 1000000, Long.MAX_VALUE};
        int[] records = {0, 0, 0, 0, 20, 20, 20, 20, 20, 20, 20, 1, 1, 1, 1};
        int[] persons = {0, 0, 0, 0, 0, 0, 0, 19, 19, 0, 0, 0, 0, 0, 0};
        int[] classes = {0, 0, 0, 0, 0, 0, 0, 9, 9, 9, 9, 9, 9, 0, 0};
        int[] there = {0, 0, 0, 0, 1, 2, 2, 1, 1, 2, 2, 1, 1, 1, 1};
        for (int i = 0; i < days.length; i++) {
            due("record on day " + days[i], x.state(0, 20, days[i]), records[i]);
            due("person on day " + days[i], x.state(1, 20, days[i]), persons[i]);
            due("class on day " + days[i], x.state(2, 20, days[i]), classes[i]);
            due("there on day " + days[i], x.state(3, 20, days[i]), there[i]);
        }
    }

    private static void stateOfWrongInputs() {
        PlainLibrary x = with(act(2, 1, 1, 1));
        int[] wrong = {Integer.MIN_VALUE, -1, 0, 21, Integer.MAX_VALUE};
        for (int n : wrong) {
            for (int what = 0; what <= 3; what++) {
                due("state(" + what + ", " + n + ")", x.state(what, n, 1), -1);
            }
        }
        int[] others = {Integer.MIN_VALUE, -1, 4, Integer.MAX_VALUE};
        for (int what : others) {
            due("state(" + what + ", 1)", x.state(what, 1, 1), -1);
        }
    }

    // Promise 7
    private static void headings() {
        PlainLibrary x = with(act(0, 20, 99, 1), act(0, 20, 64, 2), act(0, 20, 1, 3), act(0, 20, 63, 4),
                act(0, 20, 65, 5), act(1, 20, 65, 6), act(0, 19, 35, 1));
        int[] wants = {1, 63, 64, 99, -1, -1};
        for (int i = 0; i < wants.length; i++) {
            due("heading(20, " + i + ")", x.heading(20, i), wants[i]);
        }
        due("heading(19, 0)", x.heading(19, 0), 35);
        due("heading(19, 1)", x.heading(19, 1), -1);
        due("heading(20, -1)", x.heading(20, -1), -1);
        due("heading(20, max)", x.heading(20, Integer.MAX_VALUE), -1);
        due("heading(0, 0)", x.heading(0, 0), -1);
        due("heading(21, 0)", x.heading(21, 0), -1);
        due("heading(-1, 0)", x.heading(-1, 0), -1);
        for (int heading = 1; heading <= 99; heading++) {
            x.event(0, 1, heading, 100 - heading);
        }
        for (int i = 0; i < 99; i++) {
            due("all headings: heading(1, " + i + ")", x.heading(1, i), i + 1);
        }
        due("all headings: heading(1, 99)", x.heading(1, 99), -1);
        for (int heading = 1; heading <= 99; heading++) {
            int others = heading == 1 || heading == 63 || heading == 64 || heading == 99 || heading == 35 ? 1 : 0;
            due("all headings: question(" + heading + ", 0)", x.question(heading, 0), 1 + others);
        }
    }

    // Promises 8 and 9
    private static void questionsAndHits() {
        PlainLibrary x = with(act(0, 20, 99, 1), act(0, 1, 99, 2), act(0, 7, 99, 3), act(0, 7, 1, 3),
                act(0, 8, 1, 4), act(0, 9, 99, 5), act(1, 9, 99, 6));
        due("question(99, 0)", x.question(99, 0), 3);
        hits("question(99, 0)", x, 1, 7, 20);
        due("question(99, 1)", x.question(99, 1), 2);
        hits("question(99, 1)", x, 1, 20);
        due("question(1, 99)", x.question(1, 99), 1);
        hits("question(1, 99)", x, 8);
        due("question(99, 50)", x.question(99, 50), 3);
        int[][] wrong = {{0, 0}, {100, 0}, {-1, 0}, {99, -1}, {99, 100}, {Integer.MAX_VALUE, 0},
            {1, Integer.MIN_VALUE}};
        for (int[] pair : wrong) {
            due("question(" + pair[0] + ", " + pair[1] + ")", x.question(pair[0], pair[1]), -1);
            hits("behind a question that is NONE", x, 1, 7, 20);
        }
        due("question(1, 1)", x.question(1, 1), 0);
        hits("question(1, 1)", x);
        for (int record = 1; record <= 20; record++) {
            x.event(0, record, 40, 9);
        }
        due("all records", x.question(40, 0), 20);
        due("all records: hit(19)", x.hit(19), 20);
        due("all records: hit(20)", x.hit(20), -1);
    }

    private static void hits(String name, PlainLibrary x, int... wants) {
        for (int i = 0; i < wants.length; i++) {
            due(name + ": hit(" + i + ")", x.hit(i), wants[i]);
        }
        due(name + ": hit behind the last", x.hit(wants.length), -1);
        due(name + ": hit(-1)", x.hit(-1), -1);
        due(name + ": hit(max)", x.hit(Integer.MAX_VALUE), -1);
    }

    private static void hitsStayAsFound() {
        PlainLibrary x = with(act(0, 3, 5, 1), act(0, 4, 5, 1));
        due("question(5, 0)", x.question(5, 0), 2);
        x.event(1, 3, 5, 2);
        x.event(0, 1, 5, 2);
        x.state(0, 1, 0);
        hits("as found then", x, 3, 4);
        due("question(5, 0) anew", x.question(5, 0), 2);
        hits("as found now", x, 1, 4);
    }

    // Promise 10
    private static void dueDays() {
        PlainLibrary x = with(act(2, 1, 1, 1), act(3, 1, 5, 10), act(2, 2, 2, 1), act(3, 2, 5, 10));
        due("28 days at first", x.due(1), 38);
        x.event(10, 0, 3, 10);
        due("for loans behind that act alone", x.due(1), 38);
        x.event(10, 0, 4, 9);
        due("for loans behind that act", x.due(1), 14);
        x.event(9, 1, 2, 9);
        due("by the class of the record", x.due(1), 38);
        due("another record's class stays", x.due(2), 14);
        x.event(9, 1, 7, 11);
        due("by the class then", x.due(1), 38);
        x.event(10, 2, 365, 0);
        due("365 days", x.due(1), 375);
        x.event(4, 1, 0, 500);
        due("given back", x.due(1), -1);
        x.event(3, 1, 5, 1000000);
        due("lent anew, in the class of now", x.due(1), 1000028);
        due("due(0)", x.due(0), -1);
        due("due(21)", x.due(21), -1);
        due("due(min)", x.due(Integer.MIN_VALUE), -1);
        due("due(3)", x.due(3), -1);
    }

    // Promise 11
    private static void queues() {
        PlainLibrary x = new PlainLibrary();
        for (int person = 20; person >= 1; person--) {
            x.event(5, 20, person, 5);
        }
        for (int i = 0; i < 20; i++) {
            due("full queue(20, " + i + ")", x.queue(20, i), 20 - i);
        }
        due("full queue(20, 20)", x.queue(20, 20), -1);
        due("queue(19, 0)", x.queue(19, 0), -1);
        x.event(6, 20, 1, 6);
        x.event(6, 20, 15, 6);
        x.event(2, 1, 20, 6);
        x.event(3, 1, 20, 6);
        due("queue(20, 0)", x.queue(20, 0), 19);
        due("queue(20, 3)", x.queue(20, 3), 16);
        due("queue(20, 4)", x.queue(20, 4), 14);
        due("queue(20, 16)", x.queue(20, 16), 2);
        due("queue(20, 17)", x.queue(20, 17), -1);
        x.event(5, 20, 15, 7);
        due("who comes again is last", x.queue(20, 17), 15);
        due("queue(20, -1)", x.queue(20, -1), -1);
        due("queue(20, max)", x.queue(20, Integer.MAX_VALUE), -1);
        due("queue(0, 0)", x.queue(0, 0), -1);
        due("queue(21, 0)", x.queue(21, 0), -1);
    }

    // Promise 12
    private static void polls() {
        for (int sum = 0; sum < 7; sum++) {
            due("one store, sum " + sum, with(act(7, 20, 5, 700 + sum)).poll(20), sum);
        }
        PlainLibrary x = with(act(7, 1, 1, 1), act(7, 1, 2, 2));
        due("half is not enough", x.poll(1), 7);
        x.event(7, 1, 3, 8);
        due("two of three", x.poll(1), 1);
        x.event(7, 1, 4, 3);
        due("two of four", x.poll(1), 7);
        x.event(7, 1, 5, 15);
        due("three of five", x.poll(1), 1);
        x.event(7, 1, 5, 16);
        due("in place of the one before", x.poll(1), 7);
        x.event(8, 1, 1, 17);
        x.event(8, 1, 3, 17);
        due("two of three that have it", x.poll(1), 2);
        x.event(8, 1, 2, 18);
        x.event(8, 1, 4, 18);
        due("one of one", x.poll(1), 2);
        x.event(8, 1, 5, 18);
        due("no store has it", x.poll(1), -1);
        due("another file", x.poll(2), -1);
        due("poll(0)", x.poll(0), -1);
        due("poll(21)", x.poll(21), -1);
        due("poll(max)", x.poll(Integer.MAX_VALUE), -1);
        due("the last day", with(act(7, 1, 1, 1000000)).poll(1), 1);
    }

    // Promise 13
    private static void keptReturns() {
        PlainLibrary x = with(act(2, 1, 1, 0), act(2, 20, 2, 0), act(2, 3, 3, 0),
                act(3, 20, 20, 1), act(3, 1, 20, 1), act(3, 3, 4, 1),
                act(4, 20, 4, 5), act(4, 3, 20, 6), act(4, 1, 0, 7), act(4, 1, 20, 8),
                act(3, 1, 20, 9), act(4, 1, 0, 10), act(3, 20, 20, 11));
        int[] wants = {20, 1, 1, -1};
        for (int i = 0; i < wants.length; i++) {
            due("kept(20, " + i + ")", x.kept(20, i, 0, 0), wants[i]);
        }
        due("kept(4, 0): who had it, not who is told", x.kept(4, 0, 0, 0), 3);
        due("kept(4, 1)", x.kept(4, 1, 0, 0), -1);
        due("kept(5, 0)", x.kept(5, 0, 0, 0), -1);
        due("kept(20, -1)", x.kept(20, -1, 0, 0), -1);
        due("kept(20, max)", x.kept(20, Integer.MAX_VALUE, 0, 0), -1);
        due("kept(0, 0)", x.kept(0, 0, 0, 0), -1);
        due("kept(21, 0)", x.kept(21, 0, 0, 0), -1);
        due("kept(-1, 0)", x.kept(-1, 0, 0, 0), -1);
    }

    private static void keptDays() {
        PlainLibrary x = with(act(2, 1, 1, 0), act(2, 2, 1, 0), act(3, 1, 5, 1), act(3, 2, 5, 1),
                act(4, 2, 0, 10), act(4, 1, 0, 20));
        due("both are late enough", x.kept(5, 0, 13, 3), 2);
        due("the first is below", x.kept(5, 0, 14, 3), 1);
        due("the first is below, so no second", x.kept(5, 1, 14, 3), -1);
        due("the second just not", x.kept(5, 0, 23, 3), 1);
        due("both are below", x.kept(5, 0, 24, 3), -1);
        due("days below 0", x.kept(5, 0, 5, -5), 2);
        due("days below 0, one too late", x.kept(5, 0, 6, -5), 1);
        due("a sum beyond an int", x.kept(5, 0, 2147483657L, Integer.MAX_VALUE), 2);
        due("a sum beyond an int, the second", x.kept(5, 0, 2147483658L, Integer.MAX_VALUE), 1);
        due("the least days", x.kept(5, 0, 0, Integer.MIN_VALUE), -1);
        due("the least day", x.kept(5, 1, Long.MIN_VALUE, Integer.MIN_VALUE), 1);
        due("the greatest day", x.kept(5, 0, Long.MAX_VALUE, Integer.MAX_VALUE), -1);
    }

    // Promise 14
    private static void mostCopies() {
        PlainLibrary x = with(act(2, 1, 1, 0), act(2, 2, 1, 0), act(2, 3, 2, 0), act(3, 1, 5, 1), act(3, 2, 5, 2),
                act(4, 1, 0, 3), act(3, 3, 5, 4), act(4, 3, 0, 5), act(4, 2, 0, 6), act(3, 1, 20, 7));
        due("most(5)", x.most(5), 2);
        due("most(20)", x.most(20), 1);
        due("most(1)", x.most(1), 0);
        x.event(4, 1, 0, 2);
        due("most(5), one back on the same day, behind the loan", x.most(5), 2);
        x.event(6, 1, 9, 4);
        x.event(3, 1, 5, 4);
        due("most(5), three", x.most(5), 3);
        due("most(0)", x.most(0), -1);
        due("most(21)", x.most(21), -1);
        due("most(min)", x.most(Integer.MIN_VALUE), -1);
        PlainLibrary all = new PlainLibrary();
        for (int copy = 1; copy <= 20; copy++) {
            all.event(2, copy, 1, 0);
            all.event(3, copy, 7, 1);
        }
        due("most of all copies", all.most(7), 20);
    }

    private static void mostLimits() {
        PlainLibrary x = with(act(2, 1, 1, 0), act(3, 1, 5, 1));
        for (int i = 3; i <= 100; i++) {
            x.event(9, 1, 1, i);
        }
        due("most with 100 acts", x.most(5), 1);
        x.event(4, 2, 0, 1);
        due("most with 101 acts", x.most(5), -9);
        due("no such person with 101 acts", x.most(0), -1);
        due("no such person with 101 acts", x.most(21), -1);
    }

    // Promise 15
    private static void leastLeftOut() {
        due("none is void", with(act(2, 1, 1, 0), act(3, 1, 5, 1)).least(), 0);
        due("one is void", with(act(4, 1, 1, 0), act(2, 1, 1, 0)).least(), 1);
        due("two are void", with(act(4, 1, 1, 0), act(4, 2, 1, 0)).least(), 2);
        due("three are void", with(act(4, 1, 1, 0), act(4, 2, 1, 0), act(4, 3, 1, 0)).least(), 3);
        due("four are void", with(act(4, 1, 1, 0), act(4, 2, 1, 0), act(4, 3, 1, 0), act(4, 4, 1, 0)).least(), 3);
    }

    private static void leastTakesActsThatCount() {
        due("one in the queue who hinders three", with(act(2, 1, 1, 0), act(5, 1, 9, 1), act(3, 1, 5, 2),
                act(4, 1, 0, 3), act(3, 1, 6, 4), act(4, 1, 0, 5)).least(), 1);
        due("two in two queues", with(act(2, 1, 1, 0), act(2, 2, 2, 0), act(5, 1, 9, 1), act(5, 2, 9, 1),
                act(3, 1, 5, 2), act(3, 2, 5, 2), act(4, 1, 0, 3), act(4, 2, 0, 3)).least(), 2);
        due("three in three queues", with(act(2, 1, 1, 0), act(2, 2, 2, 0), act(2, 3, 3, 0), act(5, 1, 9, 1),
                act(5, 2, 9, 1), act(5, 3, 9, 1), act(3, 1, 5, 2), act(3, 2, 5, 2), act(3, 3, 5, 2)).least(), 3);
        due("two ahead in one queue", with(act(2, 1, 1, 0), act(5, 1, 8, 1), act(5, 1, 9, 1), act(3, 1, 5, 2),
                act(4, 1, 0, 3), act(3, 1, 6, 4)).least(), 2);
        due("leaving out one makes another void", with(act(0, 1, 1, 0), act(0, 1, 1, 1), act(1, 1, 1, 2)).least(), 1);
    }

    private static void leastLimits() {
        PlainLibrary x = new PlainLibrary();
        for (int i = 0; i < 28; i++) {
            x.event(9, 1, 1, i);
        }
        x.event(4, 1, 0, 1000);
        x.event(4, 1, 0, 1000);
        due("least with 30 acts", x.least(), 2);
        due("least leaves the acts", x.events(), 30);
        due("least leaves the verdicts", x.refused(), 2);
        x.event(9, 1, 1, 5);
        due("least with 31 acts", x.least(), -9);
    }

    /** Each call goes through the acts from their beginning, whatever the call ahead of it went through. */
    private static void askingLeavesNothingBehind() {
        PlainLibrary x = with(act(4, 1, 0, 0), act(2, 1, 1, 1), act(2, 2, 1, 1), act(3, 1, 5, 2), act(4, 1, 0, 3),
                act(3, 2, 5, 4), act(4, 2, 0, 5), act(3, 1, 5, 6), act(9, 1, 3, 6), act(5, 1, 8, 7));
        for (int time = 0; time < 2; time++) {
            due("later record", x.state(0, 1, 9), 1);
            due("earlier record", x.state(0, 1, 0), 0);
            due("later class", x.state(2, 1, 9), 3);
            due("earlier class", x.state(2, 1, 5), 0);
            due("later person", x.state(1, 1, 9), 5);
            due("earlier person", x.state(1, 1, 1), 0);
            due("most", x.most(5), 1);
            due("due", x.due(1), 34);
            due("the first given back", x.kept(5, 0, 0, 0), 1);
            due("the second given back", x.kept(5, 1, 0, 0), 2);
            due("no third given back", x.kept(5, 2, 0, 0), -1);
            due("refused", x.refused(), 1);
            due("least", x.least(), 1);
            due("counts(0)", x.counts(0), 0);
            due("queue", x.queue(1, 0), 8);
        }
        PlainLibrary y = with(act(2, 1, 1, 1), act(2, 2, 1, 1), act(3, 1, 5, 2), act(4, 1, 0, 3), act(3, 2, 5, 4));
        due("most", y.most(5), 1);
        due("most behind most", y.most(5), 1);
    }

    private static void objectsAreApart() {
        PlainLibrary one = with(act(0, 1, 1, 0));
        PlainLibrary other = new PlainLibrary();
        due("question of one", one.question(1, 0), 1);
        due("events of the other", other.events(), 0);
        due("hit of the other", other.hit(0), -1);
        due("heading of the other", other.heading(1, 0), -1);
    }
}
