import java.util.function.LongUnaryOperator;

/** The sentences of the section 'Terms' that set a bound or say what is VOID: a test for each of them. */
public final class TermsTest {
    private static final Check CHECK = new Check();
    private static final int SORTS = 11;

    public static void main(String[] args) {
        sorts();
        days();
        recordsCopiesPersonsFiles();
        headings();
        stores();
        classes();
        loanDays();
        anyNumberForGivingBack();
        cornersAreHeldApart();
        neighboursAreHeldApart();
        needNotBeToldBefore();
        anyOrderOfDays();
        oneDayAsEntered();
        aWholeRowOfOneDay();
        atMost200();
        voidActsTakeRoom();
        refusedActsTakeNoRoom();
        sort0();
        sort1();
        sort2();
        sort3NoRecord();
        sort3Lent();
        sort3SomebodyElseFirst();
        sort4();
        sort5();
        sort6();
        sort7();
        sumIsDayModulo7();
        sort8();
        sort9();
        sort10();
        enteredLaterMakesCount();
        enteredLaterMakesVoid();
        enteredLaterBehindAltersNothing();
        lendingTakesOutOfTheQueue();
        dueOnItsDayAndMore();
        classThen();
        loansLentBehindThatAct();
        stateOnADay();
        CHECK.end();
    }

    private static void due(String call, long got, long want) {
        CHECK.due(call, got, want);
    }

    private static PlainLibrary with(long[]... acts) {
        return CHECK.with(acts);
    }

    private static long[] act(long sort, long a, long b, long day) {
        return Check.act(sort, a, b, day);
    }

    // ---- bounds of what is entered

    /** Enters one act into a new object: 1 if it was taken, 0 if not. */
    private static long enter(long sort, long a, long b, long day) {
        PlainLibrary x = new PlainLibrary();
        int answer = x.event((int) sort, a, b, day);
        due("events() behind it", x.events(), answer);
        due("counts(0) is there if it was taken", x.counts(0) == -1 ? 0 : 1, answer);
        return answer;
    }

    /** Both last numbers inside are taken; both first outside are not, nor what is far off or looks alike when cut. */
    private static void bound(String name, long low, long high, LongUnaryOperator enter) {
        long[] inside = {low, low + 1, high - 1, high};
        for (long n : inside) {
            due(name + " " + n, enter.applyAsLong(n), 1);
        }
        long[] outside = {low - 1, high + 1, low - 2, high + 2, Integer.MIN_VALUE, Integer.MIN_VALUE + 1,
            Integer.MAX_VALUE, Integer.MAX_VALUE - 1};
        for (long n : outside) {
            due(name + " " + n, enter.applyAsLong(n), 0);
        }
    }

    /** As bound(), for a number that comes in as a long. */
    private static void longBound(String name, long low, long high, LongUnaryOperator enter) {
        bound(name, low, high, enter);
        long[] outside = {Long.MIN_VALUE, Long.MIN_VALUE + 1, Long.MAX_VALUE, Long.MAX_VALUE - 1,
            Integer.MIN_VALUE - 1L, Integer.MAX_VALUE + 1L};
        for (long n : outside) {
            due(name + " " + n, enter.applyAsLong(n), 0);
        }
        for (int bit = 32; bit < 64; bit++) {
            due(name + " " + low + " and bit " + bit, enter.applyAsLong(low ^ (1L << bit)), 0);
            due(name + " " + high + " and bit " + bit, enter.applyAsLong(high ^ (1L << bit)), 0);
        }
        due(name + " " + low + " less 2^32", enter.applyAsLong(low - (1L << 32)), 0);
        due(name + " " + high + " less 2^32", enter.applyAsLong(high - (1L << 32)), 0);
    }

    private static void sorts() {
        CHECK.says("AN ACT has a sort (0 .. 10)");
        bound("sort", 0, 10, sort -> enter(sort, 1, 1, 5));
        for (int sort = 0; sort < SORTS; sort++) {
            due("sort " + sort, enter(sort, 1, 1, 5), 1);
        }
        for (int bit = 4; bit < 32; bit++) {
            due("sort with bit " + bit, enter(1 << bit, 1, 1, 5), 0);
        }
    }

    private static void days() {
        CHECK.says("DAYS are longs, 0 .. 1000000");
        for (int s = 0; s < SORTS; s++) {
            int sort = s;
            longBound("sort " + sort + ", day", 0, 1000000, day -> enter(sort, 1, 1, day));
        }
    }

    private static void recordsCopiesPersonsFiles() {
        CHECK.says("RECORDS, COPIES, PERSONS, FILES are told by numbers 1 .. 20 each");
        int[] recordFirst = {0, 1, 5, 6, 9};
        for (int sort : recordFirst) {
            longBound("sort " + sort + ", record", 1, 20, a -> enter(sort, a, 1, 5));
        }
        longBound("sort 2, record", 1, 20, b -> enter(2, 1, b, 5));
        int[] copyFirst = {2, 3, 4};
        for (int sort : copyFirst) {
            longBound("sort " + sort + ", copy", 1, 20, a -> enter(sort, a, 1, 5));
        }
        int[] personSecond = {3, 5, 6};
        for (int sort : personSecond) {
            longBound("sort " + sort + ", person", 1, 20, b -> enter(sort, 1, b, 5));
        }
        int[] fileFirst = {7, 8};
        for (int sort : fileFirst) {
            longBound("sort " + sort + ", file", 1, 20, a -> enter(sort, a, 1, 5));
        }
    }

    private static void headings() {
        CHECK.says("a heading b (1 .. 99)");
        longBound("sort 0, heading", 1, 99, b -> enter(0, 1, b, 5));
        longBound("sort 1, heading", 1, 99, b -> enter(1, 1, b, 5));
    }

    private static void stores() {
        CHECK.says("store b (1 .. 5)");
        longBound("sort 7, store", 1, 5, b -> enter(7, 1, b, 5));
        longBound("sort 8, store", 1, 5, b -> enter(8, 1, b, 5));
    }

    private static void classes() {
        CHECK.says("CLASS is b (0 .. 9)");
        longBound("sort 9, class", 0, 9, b -> enter(9, 1, b, 5));
        CHECK.says("a CLASS a (0 .. 9)");
        longBound("sort 10, class", 0, 9, a -> enter(10, a, 1, 5));
    }

    private static void loanDays() {
        CHECK.says("lasts b days (1 .. 365)");
        longBound("sort 10, days", 1, 365, b -> enter(10, 0, b, 5));
    }

    private static void anyNumberForGivingBack() {
        CHECK.says("4 it is given back (b does not matter)");
        long[] any = {Long.MIN_VALUE, Long.MIN_VALUE + 1, Integer.MIN_VALUE - 1L, Integer.MIN_VALUE, -1, 0, 1, 8, 20,
            21, 99, 100, Integer.MAX_VALUE, Integer.MAX_VALUE + 1L, 1L << 32, Long.MAX_VALUE - 1, Long.MAX_VALUE};
        for (long b : any) {
            due("event(4, 1, " + b + ", 5)", enter(4, 1, b, 5), 1);
            PlainLibrary x = with(act(2, 1, 1, 0), act(3, 1, 7, 0), act(4, 1, b, 0));
            due("it counts with b " + b, x.counts(2), 1);
            due("nobody has it with b " + b, x.state(1, 1, 0), 0);
            due("7 had it with b " + b, x.kept(7, 0, 0, 0), 1);
            due("8 had it not with b " + b, x.kept(8, 0, 0, 0), -1);
        }
    }

    /** The least and the greatest of each number stand side by side, and neither answers for the other. */
    private static void cornersAreHeldApart() {
        CHECK.says("RECORDS, COPIES, PERSONS, FILES .. 1 .. 20, headings 1 .. 99, stores 1 .. 5, CLASS 0 .. 9");
        PlainLibrary x = with(act(0, 1, 1, 0), act(0, 20, 99, 0), act(2, 1, 20, 0), act(2, 20, 1, 0),
                act(9, 1, 9, 0), act(9, 20, 0, 0), act(10, 0, 365, 0), act(10, 9, 1, 0), act(5, 1, 20, 0),
                act(5, 20, 1, 0), act(3, 1, 1, 1), act(3, 20, 20, 1), act(5, 1, 1, 2), act(5, 20, 20, 2),
                act(7, 1, 5, 3), act(7, 20, 1, 4));
        due("refused()", x.refused(), 0);
        due("heading(1, 0)", x.heading(1, 0), 1);
        due("heading(1, 1)", x.heading(1, 1), -1);
        due("heading(20, 0)", x.heading(20, 0), 99);
        due("heading(20, 1)", x.heading(20, 1), -1);
        due("record of 1", x.state(0, 1, 9), 20);
        due("record of 20", x.state(0, 20, 9), 1);
        due("person with 1", x.state(1, 1, 9), 1);
        due("person with 20", x.state(1, 20, 9), 20);
        due("class of 1", x.state(2, 1, 9), 9);
        due("class of 20", x.state(2, 20, 9), 0);
        due("due(1)", x.due(1), 366);
        due("due(20)", x.due(20), 2);
        due("queue(1, 0)", x.queue(1, 0), 1);
        due("queue(1, 1)", x.queue(1, 1), -1);
        due("queue(20, 0)", x.queue(20, 0), 20);
        due("queue(20, 1)", x.queue(20, 1), -1);
        due("poll(1)", x.poll(1), 3);
        due("poll(20)", x.poll(20), 4);
        for (int n = 2; n <= 19; n++) {
            due("heading(" + n + ", 0)", x.heading(n, 0), -1);
            due("record of " + n, x.state(0, n, 9), 0);
            due("person with " + n, x.state(1, n, 9), 0);
            due("class of " + n, x.state(2, n, 9), 0);
            due("queue(" + n + ", 0)", x.queue(n, 0), -1);
            due("poll(" + n + ")", x.poll(n), -1);
        }
    }

    /** Every second record has headings at the edges, every second file is in all stores, and those between are not. */
    private static void neighboursAreHeldApart() {
        CHECK.says("RECORDS, COPIES, PERSONS, FILES are told by numbers 1 .. 20 each");
        int[] headings = {1, 2, 62, 63, 64, 65, 98, 99};
        for (int first = 1; first <= 2; first++) {
            PlainLibrary x = new PlainLibrary();
            for (int n = first; n <= 20; n += 2) {
                for (int heading : headings) {
                    x.event(0, n, heading, 0);
                }
                for (int store = 1; store <= 5; store++) {
                    x.event(7, n, store, 700 + n % 7);
                }
            }
            due("all count", x.refused(), 0);
            for (int n = 1; n <= 20; n++) {
                boolean has = n % 2 == first % 2;
                for (int i = 0; i < headings.length; i++) {
                    due("heading(" + n + ", " + i + ")", x.heading(n, i), has ? headings[i] : -1);
                }
                due("heading(" + n + ", 8)", x.heading(n, 8), -1);
                due("poll(" + n + ")", x.poll(n), has ? n % 7 : -1);
            }
            for (int n = 3 - first; n <= 20; n += 2) {
                x.event(8, n, 1, 800);
                x.event(8, n, 5, 800);
                x.event(1, n, 1, 800);
                x.event(1, n, 99, 800);
            }
            due("those between have nothing to lose", x.refused(), 40);
        }
    }

    private static void needNotBeToldBefore() {
        CHECK.says("they need not be told before");
        int[] counts = {1, 0, 1, 0, 0, 1, 0, 1, 0, 1, 1};
        for (int sort = 0; sort < SORTS; sort++) {
            long a = sort == 10 ? 9 : 20;
            CHECK.verdicts("sort " + sort + " alone", with(act(sort, a, 5, 0)), counts[sort]);
        }
    }

    // ---- the order in which acts count

    private static void anyOrderOfDays() {
        CHECK.says("acts are entered in any order of days, and count by days");
        long[][] acts = {act(2, 1, 5, 0), act(3, 1, 7, 20), act(4, 1, 0, 1000000)};
        int[][] orders = {{0, 1, 2}, {0, 2, 1}, {1, 0, 2}, {1, 2, 0}, {2, 0, 1}, {2, 1, 0}};
        for (int[] o : orders) {
            String name = "order " + o[0] + o[1] + o[2];
            PlainLibrary x = with(acts[o[0]], acts[o[1]], acts[o[2]]);
            CHECK.verdicts(name, x, 1, 1, 1);
            due(name + ": person ahead", x.state(1, 1, 19), 0);
            due(name + ": person between", x.state(1, 1, 999999), 7);
            due(name + ": person behind", x.state(1, 1, 1000000), 0);
        }
    }

    private static void oneDayAsEntered() {
        CHECK.says("those of one day as they were entered");
        long[] days = {0, 1, 500, 999999, 1000000};
        for (long day : days) {
            CHECK.verdicts("lent first, day " + day, with(act(3, 1, 7, day), act(2, 1, 5, day)), 0, 1);
            CHECK.verdicts("lent last, day " + day, with(act(2, 1, 5, day), act(3, 1, 7, day)), 1, 1);
            due("the class told last, day " + day,
                    with(act(9, 1, 3, day), act(9, 1, 1, day), act(9, 1, 2, day)).state(2, 1, day), 2);
        }
        PlainLibrary x = with(act(9, 1, 6, 11), act(9, 1, 2, 10), act(9, 1, 1, 9), act(9, 1, 3, 10), act(9, 1, 7, 11),
                act(9, 1, 4, 10), act(9, 1, 0, 9));
        due("day 9, others between", x.state(2, 1, 9), 0);
        due("day 10, others between", x.state(2, 1, 10), 4);
        due("day 11, others between", x.state(2, 1, 11), 7);
    }

    private static void aWholeRowOfOneDay() {
        CHECK.says("those of one day as they were entered");
        PlainLibrary x = new PlainLibrary();
        for (int i = 1; i <= 200; i++) {
            due("one day: event " + i, x.event(i % 2 == 1 ? 0 : 1, 1, 99, 1000000), i);
        }
        for (int i = 0; i < 200; i++) {
            due("one day: counts(" + i + ")", x.counts(i), 1);
        }
        due("one day: heading", x.heading(1, 0), -1);
    }

    // ---- at most 200

    private static void every201st(String name, PlainLibrary x) {
        long[] days = {0, 500, 1000000};
        for (int sort = 0; sort < SORTS; sort++) {
            for (long day : days) {
                due(name + ": one of sort " + sort + " on day " + day, x.event(sort, 1, 1, day), 0);
            }
        }
        due(name + ": events()", x.events(), 200);
    }

    private static void atMost200() {
        CHECK.says("At most 200 acts");
        PlainLibrary x = new PlainLibrary();
        for (int i = 1; i <= 199; i++) {
            due("event " + i, x.event(9, 1 + i % 20, i % 10, 500), i);
        }
        due("counts(198)", x.counts(198), 1);
        due("counts(199), with 199", x.counts(199), -1);
        due("the 200th", x.event(9, 20, 8, 0), 200);
        every201st("behind 200", x);
        due("counts(199), with 200", x.counts(199), 1);
        due("counts(200)", x.counts(200), -1);
        due("refused()", x.refused(), 0);
        due("the 200th is done, ahead of all", x.state(2, 20, 499), 8);
        due("the 199th is done", x.state(2, 20, 500), 9);
        due("the 198th is done", x.state(2, 19, 500), 8);
    }

    private static void voidActsTakeRoom() {
        CHECK.says("At most 200 acts");
        PlainLibrary x = new PlainLibrary();
        for (int i = 1; i <= 200; i++) {
            due("void event " + i, x.event(4, 1 + i % 20, 0, i), i);
        }
        every201st("behind 200 that are void", x);
        due("refused()", x.refused(), 200);
    }

    private static void refusedActsTakeNoRoom() {
        CHECK.says("At most 200 acts");
        PlainLibrary x = new PlainLibrary();
        for (int i = 1; i <= 200; i++) {
            due("refused, ahead of event " + i, x.event(9, 21, 1, 500), 0);
            due("event " + i, x.event(9, 1, 1, 500), i);
        }
        due("the 201st", x.event(9, 1, 1, 500), 0);
        due("events()", x.events(), 200);
    }

    // ---- what is VOID, sort by sort

    private static void sort0() {
        CHECK.says("0 a record a has a heading b more, if it has not; VOID: 0 .. that change nothing");
        PlainLibrary x = with(act(0, 1, 9, 1), act(0, 1, 9, 1), act(0, 1, 9, 2), act(0, 2, 9, 3), act(0, 1, 10, 4),
                act(1, 1, 9, 5), act(0, 1, 9, 6), act(0, 1, 9, 7));
        CHECK.verdicts("sort 0", x, 1, 0, 0, 1, 1, 1, 1, 0);
        due("heading(1, 0)", x.heading(1, 0), 9);
        due("heading(1, 1)", x.heading(1, 1), 10);
        due("heading(1, 2)", x.heading(1, 2), -1);
        due("heading(2, 0)", x.heading(2, 0), 9);
        due("heading(2, 1)", x.heading(2, 1), -1);
        for (int heading = 1; heading <= 99; heading++) {
            CHECK.verdicts("heading " + heading, with(act(0, 20, heading, 1), act(0, 20, heading, 2)), 1, 0);
        }
    }

    private static void sort1() {
        CHECK.says("1 it has it no more; VOID: 1 .. that change nothing");
        PlainLibrary x = with(act(1, 1, 9, 0), act(0, 1, 9, 1), act(1, 2, 9, 2), act(1, 1, 10, 2), act(1, 1, 9, 3),
                act(1, 1, 9, 3), act(1, 1, 9, 4));
        CHECK.verdicts("sort 1", x, 0, 1, 0, 0, 1, 0, 0);
        due("heading(1, 0)", x.heading(1, 0), -1);
        due("heading(2, 0)", x.heading(2, 0), -1);
        for (int heading = 1; heading <= 99; heading++) {
            CHECK.verdicts("heading " + heading,
                    with(act(1, 20, heading, 0), act(0, 20, heading, 1), act(1, 20, heading, 2)), 0, 1, 1);
        }
    }

    private static void sort2() {
        CHECK.says("2 a copy a is of record b from then on; VOID: 2 one that is lent");
        PlainLibrary x = with(act(2, 1, 5, 1), act(2, 1, 6, 2), act(2, 1, 6, 3), act(3, 1, 7, 4), act(2, 1, 5, 5),
                act(2, 1, 6, 6), act(2, 2, 6, 6), act(4, 1, 0, 7), act(2, 1, 5, 8));
        CHECK.verdicts("sort 2", x, 1, 1, 1, 1, 0, 0, 1, 1, 1);
        int[] records = {0, 5, 6, 6, 6, 6, 6, 6, 5};
        for (int day = 0; day < records.length; day++) {
            due("record on day " + day, x.state(0, 1, day), records[day]);
        }
        due("none there of 6 but copy 2, while 1 is lent", x.state(3, 6, 6), 1);
        due("there of 6 when 1 is back", x.state(3, 6, 7), 2);
        due("there of 5 at last", x.state(3, 5, 8), 1);
    }

    private static void sort3NoRecord() {
        CHECK.says("VOID: 3 a copy of no record");
        PlainLibrary x = with(act(2, 2, 5, 1), act(3, 1, 7, 1), act(2, 1, 5, 2), act(3, 1, 7, 3));
        CHECK.verdicts("sort 3", x, 1, 0, 1, 1);
        due("nobody has it", x.state(1, 1, 2), 0);
        due("7 has it", x.state(1, 1, 3), 7);
    }

    private static void sort3Lent() {
        CHECK.says("VOID: 3 .. one that is lent");
        PlainLibrary x = with(act(2, 1, 5, 1), act(3, 1, 7, 2), act(3, 1, 7, 3), act(3, 1, 8, 4), act(5, 5, 8, 5),
                act(3, 1, 8, 6), act(4, 1, 0, 7), act(3, 1, 8, 8));
        CHECK.verdicts("sort 3", x, 1, 1, 0, 0, 1, 0, 1, 1);
        due("7 has it yet", x.state(1, 1, 6), 7);
        due("8 has it at last", x.state(1, 1, 8), 8);
        PlainLibrary y = with(act(2, 1, 5, 1), act(3, 1, 7, 2), act(5, 5, 8, 5), act(3, 1, 8, 6));
        due("a void loan leaves the day", y.due(1), 30);
        due("a void loan leaves the queue", y.queue(5, 0), 8);
    }

    private static void sort3SomebodyElseFirst() {
        CHECK.says("VOID: 3 .. one of whose record somebody else is first in the QUEUE");
        long[][] ahead = {act(2, 1, 5, 1), act(5, 5, 8, 2), act(5, 5, 9, 2)};
        CHECK.verdicts("who stands not in it", with(ahead[0], ahead[1], ahead[2], act(3, 1, 7, 3)), 1, 1, 1, 0);
        CHECK.verdicts("who is second", with(ahead[0], ahead[1], ahead[2], act(3, 1, 9, 3)), 1, 1, 1, 0);
        CHECK.verdicts("who is first", with(ahead[0], ahead[1], ahead[2], act(3, 1, 8, 3)), 1, 1, 1, 1);
        CHECK.verdicts("who is alone", with(ahead[0], ahead[1], act(3, 1, 8, 3)), 1, 1, 1);
        CHECK.verdicts("the queue is empty", with(ahead[0], act(3, 1, 7, 3)), 1, 1);
        CHECK.verdicts("the queue is empty again", with(ahead[0], ahead[1], act(6, 5, 8, 2), act(3, 1, 7, 3)),
                1, 1, 1, 1);
        CHECK.verdicts("another record's queue", with(act(2, 1, 6, 1), ahead[1], act(3, 1, 7, 3)), 1, 1, 1);
        CHECK.verdicts("the record it was of", with(ahead[0], ahead[1], act(2, 1, 6, 2), act(3, 1, 7, 3)), 1, 1, 1, 1);
        CHECK.verdicts("a queue by the copy's number", with(act(2, 1, 5, 1), act(5, 1, 8, 2), act(3, 1, 7, 3)),
                1, 1, 1);
        PlainLibrary x = with(ahead[0], ahead[1], ahead[2], act(3, 1, 9, 3));
        due("a void loan leaves who is second in the queue", x.queue(5, 1), 9);
        due("nobody has it", x.state(1, 1, 3), 0);
        due("it is not due", x.due(1), -1);
    }

    private static void sort4() {
        CHECK.says("VOID: 4 one that is not lent");
        PlainLibrary x = with(act(4, 1, 0, 0), act(2, 1, 5, 1), act(4, 1, 0, 2), act(3, 1, 7, 3), act(4, 2, 7, 4),
                act(4, 1, 7, 5), act(4, 1, 7, 5), act(4, 1, 7, 6));
        CHECK.verdicts("sort 4", x, 0, 1, 0, 1, 0, 1, 0, 0);
        due("7 has it", x.state(1, 1, 4), 7);
        due("nobody has it", x.state(1, 1, 5), 0);
        due("it is of its record yet", x.state(0, 1, 6), 5);
    }

    private static void sort5() {
        CHECK.says("5 a person b .. stands in its QUEUE, if it does not yet; VOID: 5 .. that change nothing");
        PlainLibrary x = with(act(5, 1, 8, 1), act(5, 1, 9, 2), act(5, 1, 8, 3), act(5, 1, 9, 3), act(5, 2, 8, 4),
                act(6, 1, 8, 5), act(5, 1, 8, 6));
        CHECK.verdicts("sort 5", x, 1, 1, 0, 0, 1, 1, 1);
        due("queue(1, 0)", x.queue(1, 0), 9);
        due("queue(1, 1)", x.queue(1, 1), 8);
        due("queue(1, 2)", x.queue(1, 2), -1);
        due("a void one leaves the place", with(act(5, 1, 8, 1), act(5, 1, 9, 2), act(5, 1, 8, 3)).queue(1, 0), 8);
        CHECK.verdicts("who has a copy may stand in it", with(act(2, 1, 1, 1), act(3, 1, 8, 2), act(5, 1, 8, 3)),
                1, 1, 1);
    }

    private static void sort6() {
        CHECK.says("VOID: 6 one that is not in it");
        PlainLibrary x = with(act(6, 1, 8, 0), act(5, 1, 8, 1), act(6, 1, 9, 2), act(6, 2, 8, 2), act(6, 1, 8, 3),
                act(6, 1, 8, 3), act(6, 1, 8, 4));
        CHECK.verdicts("sort 6", x, 0, 1, 0, 0, 1, 0, 0);
        int[] left = {8, 9, 10};
        for (int out = 0; out < 3; out++) {
            PlainLibrary y = with(act(5, 1, 8, 1), act(5, 1, 9, 1), act(5, 1, 10, 1), act(6, 1, left[out], 2));
            due(left[out] + " is out: first", y.queue(1, 0), out == 0 ? 9 : 8);
            due(left[out] + " is out: second", y.queue(1, 1), out == 2 ? 9 : 10);
            due(left[out] + " is out: no third", y.queue(1, 2), -1);
        }
    }

    private static void sort7() {
        CHECK.says("7 store b has of file a the sum that is told by its day (in place of the one before)");
        PlainLibrary x = with(act(7, 1, 1, 1), act(7, 1, 1, 1), act(7, 1, 1, 8), act(7, 1, 1, 9));
        CHECK.verdicts("sort 7 always counts", x, 1, 1, 1, 1);
        due("in place of the one before", x.poll(1), 2);
        due("one day, as entered: lost", with(act(7, 1, 1, 3), act(8, 1, 1, 3)).poll(1), -1);
        due("entered later, but before", with(act(7, 1, 1, 9), act(7, 1, 1, 8)).poll(1), 2);
        due("another store keeps its own", with(act(7, 1, 1, 1), act(7, 1, 2, 2), act(8, 1, 1, 3)).poll(1), 2);
    }

    private static void sumIsDayModulo7() {
        CHECK.says("DAY modulo 7");
        for (long day = 0; day <= 30; day++) {
            due("the sum of day " + day, with(act(7, 1, 1, day)).poll(1), day % 7);
        }
        int[] last = {2, 3, 4, 5, 6, 0, 1};
        for (int i = 0; i < last.length; i++) {
            long day = 999994 + i;
            due("the sum of day " + day, with(act(7, 20, 5, day)).poll(20), last[i]);
        }
    }

    private static void sort8() {
        CHECK.says("8 store b has lost file a; VOID: 8 that change nothing");
        PlainLibrary x = with(act(8, 1, 1, 0), act(7, 1, 1, 0), act(8, 1, 2, 1), act(8, 2, 1, 1), act(8, 1, 1, 2),
                act(8, 1, 1, 2), act(8, 1, 1, 3), act(7, 1, 1, 4), act(8, 1, 1, 5));
        CHECK.verdicts("sort 8", x, 0, 1, 0, 0, 1, 0, 0, 1, 1);
        for (int day = 0; day < 7; day++) {
            CHECK.verdicts("a sum of " + day + " can be lost", with(act(7, 20, 5, day), act(8, 20, 5, day)), 1, 1);
        }
    }

    private static void sort9() {
        CHECK.says("9 record a's CLASS is b (0 at first)");
        for (int n = 1; n <= 20; n++) {
            due("at first", new PlainLibrary().state(2, n, 1000000), 0);
        }
        PlainLibrary x = with(act(9, 1, 0, 0), act(9, 1, 9, 1), act(9, 1, 9, 2), act(9, 1, 0, 3));
        CHECK.verdicts("sort 9 always counts", x, 1, 1, 1, 1);
        int[] classes = {0, 9, 9, 0};
        for (int day = 0; day < 4; day++) {
            due("class on day " + day, x.state(2, 1, day), classes[day]);
        }
    }

    private static void sort10() {
        CHECK.says("10 a loan of a CLASS a lasts b days (28 at first) from then on");
        for (int c = 0; c <= 9; c++) {
            long[][] loan = {act(2, 1, 1, 0), act(9, 1, c, 0), act(3, 1, 7, 100)};
            due("class " + c + " at first", with(loan[0], loan[1], loan[2]).due(1), 128);
            due("class " + c + ", 1 day", with(loan[0], loan[1], loan[2], act(10, c, 1, 0)).due(1), 101);
            due("class " + c + ", 365 days", with(loan[0], loan[1], loan[2], act(10, c, 365, 0)).due(1), 465);
            due("class " + c + ", another's days",
                    with(loan[0], loan[1], loan[2], act(10, (c + 1) % 10, 365, 0)).due(1), 128);
        }
        CHECK.verdicts("sort 10 always counts", with(act(10, 0, 28, 0), act(10, 0, 5, 1), act(10, 0, 5, 2)), 1, 1, 1);
    }

    // ---- an act that is entered later and alters whether others count

    /** The last of the acts, on day 20, is looked at ahead of and behind the entering of one more, on day 10. */
    private static void altered(String name, int from, int to, long[] later, long[]... acts) {
        PlainLibrary x = with(acts);
        int last = acts.length - 1;
        due(name + ": counts(" + last + ")", x.counts(last), from);
        due(name + ": entered later", x.event((int) later[0], later[1], later[2], later[3]), acts.length + 1);
        due(name + ": counts(" + (last + 1) + ")", x.counts(last + 1), to);
        due(name + ": what was entered later counts", x.counts(last), 1);
    }

    private static void enteredLaterMakesCount() {
        CHECK.says("one that is entered later can alter that: from VOID to COUNTS");
        altered("sort 0", 0, 1, act(1, 1, 9, 10), act(0, 1, 9, 5), act(0, 1, 9, 20));
        altered("sort 1", 0, 1, act(0, 1, 9, 10), act(1, 1, 9, 20));
        altered("sort 2", 0, 1, act(4, 1, 0, 10), act(2, 1, 5, 5), act(3, 1, 7, 5), act(2, 1, 6, 20));
        altered("sort 3, no record", 0, 1, act(2, 1, 5, 10), act(3, 1, 7, 20));
        altered("sort 3, lent", 0, 1, act(4, 1, 0, 10), act(2, 1, 5, 5), act(3, 1, 8, 5), act(3, 1, 7, 20));
        altered("sort 3, queue", 0, 1, act(6, 5, 8, 10), act(2, 1, 5, 5), act(5, 5, 8, 5), act(3, 1, 7, 20));
        altered("sort 3, other record", 0, 1, act(2, 1, 6, 10), act(2, 1, 5, 5), act(5, 5, 8, 5), act(3, 1, 7, 20));
        altered("sort 4", 0, 1, act(3, 1, 7, 10), act(2, 1, 5, 5), act(4, 1, 0, 20));
        altered("sort 5", 0, 1, act(6, 1, 8, 10), act(5, 1, 8, 5), act(5, 1, 8, 20));
        altered("sort 5, lent", 0, 1, act(3, 1, 8, 10), act(2, 1, 1, 5), act(5, 1, 8, 5), act(5, 1, 8, 20));
        altered("sort 6", 0, 1, act(5, 1, 8, 10), act(6, 1, 8, 20));
        altered("sort 8", 0, 1, act(7, 1, 1, 10), act(8, 1, 1, 20));
    }

    private static void enteredLaterMakesVoid() {
        CHECK.says("one that is entered later can alter that: from COUNTS to VOID");
        altered("sort 0", 1, 0, act(0, 1, 9, 10), act(0, 1, 9, 20));
        altered("sort 1", 1, 0, act(1, 1, 9, 10), act(0, 1, 9, 5), act(1, 1, 9, 20));
        altered("sort 2", 1, 0, act(3, 1, 7, 10), act(2, 1, 5, 5), act(2, 1, 6, 20));
        altered("sort 3, lent", 1, 0, act(3, 1, 8, 10), act(2, 1, 5, 5), act(3, 1, 7, 20));
        altered("sort 3, queue", 1, 0, act(5, 5, 8, 10), act(2, 1, 5, 5), act(3, 1, 7, 20));
        altered("sort 3, other record", 1, 0, act(2, 1, 6, 10), act(2, 1, 5, 5), act(5, 6, 8, 5), act(3, 1, 7, 20));
        altered("sort 4", 1, 0, act(4, 1, 0, 10), act(2, 1, 5, 5), act(3, 1, 7, 5), act(4, 1, 0, 20));
        altered("sort 5", 1, 0, act(5, 1, 8, 10), act(5, 1, 8, 20));
        altered("sort 6", 1, 0, act(6, 1, 8, 10), act(5, 1, 8, 5), act(6, 1, 8, 20));
        altered("sort 6, lent", 1, 0, act(3, 1, 8, 10), act(2, 1, 1, 5), act(5, 1, 8, 5), act(6, 1, 8, 20));
        altered("sort 8", 1, 0, act(8, 1, 1, 10), act(7, 1, 1, 5), act(8, 1, 1, 20));
        PlainLibrary x = with(act(2, 1, 5, 10), act(3, 1, 7, 20), act(4, 1, 0, 30), act(5, 5, 7, 40));
        due("none is void", x.refused(), 0);
        x.event(5, 5, 9, 15);
        CHECK.verdicts("one drags others along", x, 1, 1, 0, 0, 1);
        x.event(6, 5, 9, 16);
        CHECK.verdicts("and they come back", x, 1, 1, 1, 1, 1, 1);
    }

    private static void enteredLaterBehindAltersNothing() {
        CHECK.says("An act is VOID or COUNTS by those ahead of it");
        PlainLibrary x = with(act(3, 1, 7, 20), act(4, 1, 0, 21), act(0, 1, 9, 22));
        CHECK.verdicts("at first", x, 0, 0, 1);
        x.event(2, 1, 5, 1000000);
        CHECK.verdicts("a record on a later day", x, 0, 0, 1, 1);
        x.event(2, 1, 5, 20);
        CHECK.verdicts("a record on the same day, entered later", x, 0, 1, 0, 1, 1);
        x.event(2, 1, 5, 19);
        CHECK.verdicts("a record on the day before", x, 1, 1, 0, 1, 1, 1);
    }

    // ---- loans

    private static void lendingTakesOutOfTheQueue() {
        CHECK.says("Lending takes the person out of the record's QUEUE");
        PlainLibrary x = with(act(2, 1, 5, 0), act(5, 5, 8, 1), act(5, 5, 9, 1), act(5, 6, 8, 1), act(3, 1, 8, 2));
        due("who was second is first", x.queue(5, 0), 9);
        due("there is no second", x.queue(5, 1), -1);
        due("another record's queue stays", x.queue(6, 0), 8);
        PlainLibrary y = with(act(2, 1, 5, 0), act(5, 5, 8, 1), act(3, 1, 8, 2), act(6, 5, 8, 3), act(5, 5, 8, 4));
        CHECK.verdicts("out of it, and in it again", y, 1, 1, 1, 0, 1);
        due("in it again", y.queue(5, 0), 8);
        PlainLibrary z = with(act(2, 1, 5, 0), act(2, 2, 5, 0), act(5, 5, 8, 1), act(3, 1, 8, 2), act(3, 2, 9, 3));
        CHECK.verdicts("a second copy is free for others then", z, 1, 1, 1, 1, 1);
    }

    private static void dueOnItsDayAndMore() {
        CHECK.says("A loan is DUE on its day and as many days more as the CLASS lasts");
        due("the least", with(act(10, 0, 1, 0), act(2, 1, 1, 0), act(3, 1, 1, 0)).due(1), 1);
        due("the greatest", with(act(10, 0, 365, 0), act(2, 20, 20, 0), act(3, 20, 20, 1000000)).due(20), 1000365);
        due("the last day, 28 days", with(act(2, 20, 20, 0), act(3, 20, 20, 1000000)).due(20), 1000028);
        due("the first day, 28 days", with(act(2, 20, 20, 0), act(3, 20, 20, 0)).due(20), 28);
    }

    private static void classThen() {
        CHECK.says("as the CLASS of the copy's record lasts then");
        long[][] acts = {act(2, 1, 5, 0), act(10, 9, 3, 0), act(3, 1, 7, 10)};
        due("the record's class, ahead", with(acts[0], acts[1], acts[2], act(9, 5, 9, 9)).due(1), 13);
        due("the record's class, behind", with(acts[0], acts[1], acts[2], act(9, 5, 9, 11)).due(1), 38);
        due("the record's class, behind on that day", with(acts[0], acts[1], acts[2], act(9, 5, 9, 10)).due(1), 38);
        due("the record's class, ahead on that day", with(act(9, 5, 9, 10), acts[0], acts[1], acts[2]).due(1), 13);
        due("another record's class", with(acts[0], acts[1], acts[2], act(9, 1, 9, 9), act(9, 7, 9, 9)).due(1), 38);
        due("the class of the record it was of",
                with(act(2, 1, 6, 0), act(9, 6, 9, 0), acts[0], acts[1], acts[2]).due(1), 38);
        due("a class put back", with(acts[0], acts[1], acts[2], act(9, 5, 9, 8), act(9, 5, 0, 9)).due(1), 38);
    }

    private static void loansLentBehindThatAct() {
        CHECK.says("for loans lent behind that act");
        long[] record = act(2, 1, 5, 0);
        long[] loan = act(3, 1, 7, 10);
        due("the day before", with(record, loan, act(10, 0, 3, 9)).due(1), 13);
        due("the same day, ahead", with(record, act(10, 0, 3, 10), loan).due(1), 13);
        due("the same day, behind", with(record, loan, act(10, 0, 3, 10)).due(1), 38);
        due("the day after", with(record, loan, act(10, 0, 3, 11)).due(1), 38);
        PlainLibrary x = with(record, loan, act(10, 0, 3, 11), act(4, 1, 0, 12), act(3, 1, 7, 13));
        due("lent again behind it", x.due(1), 16);
        due("the latest ahead", with(record, act(10, 0, 5, 8), act(10, 0, 3, 9), loan, act(10, 0, 4, 8)).due(1), 13);
    }

    private static void stateOnADay() {
        CHECK.says("THE STATE ON A DAY is what acts of days up to it make");
        long[] days = {1, 2, 500, 999999};
        for (long day : days) {
            PlainLibrary x = with(act(2, 1, 5, day), act(9, 5, 9, day), act(2, 2, 5, day), act(3, 1, 7, day),
                    act(3, 1, 8, day));
            int[] before = {0, 0, 0, 0};
            int[] from = {5, 7, 9, 1};
            for (int what = 0; what <= 3; what++) {
                int n = what < 2 ? 1 : 5;
                due("state " + what + ", the day before " + day, x.state(what, n, day - 1), before[what]);
                due("state " + what + ", on day " + day, x.state(what, n, day), from[what]);
                due("state " + what + ", the day after " + day, x.state(what, n, day + 1), from[what]);
            }
        }
        PlainLibrary ends = with(act(9, 5, 1, 0), act(9, 5, 2, 1000000));
        due("acts of day 0", ends.state(2, 5, 0), 1);
        due("one day ahead of the last", ends.state(2, 5, 999999), 1);
        due("acts of the last day", ends.state(2, 5, 1000000), 2);
    }
}
