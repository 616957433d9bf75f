import java.io.IOException;
import java.nio.file.Files;
import java.nio.file.Path;
import java.util.ArrayList;
import java.util.Arrays;
import java.util.List;

/**
 * The document from its first sentence to its last promise, each sentence in its own words, with calls that would be
 * answered otherwise if it did not hold. Every answer is asked for at once and as the 512th call of an object.
 */
public final class DocumentTest {
    private static final Check CHECK = new Check();
    private static final List<String> QUOTED = new ArrayList<>();
    private static final Path DOCUMENT = Path.of("..", "shared", "DOC.md");
    private static final int LAST_CALL = 512;
    private static final long LAST_DAY = 1000000;
    private static final int NONE = PlainLibrary.NONE;
    private static final int NOT_TRIED = PlainLibrary.NOT_TRIED;
    private static final int SORTS = 11;

    private interface Call {
        long on(PlainLibrary x);
    }

    /** Calls that only ask or are refused; a question() that is not NONE is not among them, for the hits' sake. */
    private static final Call[] IDLE = {
        x -> x.event(11, 1, 1, 1), x -> x.counts(0), x -> x.event(3, 21, 1, 5), x -> x.events(), x -> x.refused(),
        x -> x.state(0, 1, 0), x -> x.state(1, 1, 15), x -> x.event(0, 1, 1, -1), x -> x.state(3, 1, LAST_DAY),
        x -> x.heading(1, 0), x -> x.question(0, 0), x -> x.question(1, 100), x -> x.hit(0), x -> x.due(1),
        x -> x.queue(1, 0), x -> x.poll(1), x -> x.kept(7, 0, 0, 0), x -> x.most(7), x -> x.least(),
        x -> x.counts(500), x -> x.hit(-1)};

    public static void main(String[] args) {
        whatItIs();
        atMost512Calls();
        days();
        actsAndTheirOrder();
        atMost200Acts();
        numbers();
        sortsOfHeadings();
        sortsOfCopies();
        sortsOfQueues();
        sortsOfFiles();
        sortsOfClasses();
        voidLoans();
        voidOthers();
        elseItCounts();
        lendingAndDue();
        constants();
        promises1To5();
        promise6();
        promises7To9();
        promises10To12();
        promise13();
        promises14And15();
        everySentenceIsQuoted();
        CHECK.end();
    }

    private static void says(String words) {
        QUOTED.add(words);
        CHECK.says(words);
    }

    private static void due(String name, long want, Call asked, Call... ahead) {
        int idle = LAST_CALL - 1 - ahead.length;
        CHECK.due(name, answer(asked, 0, 0, ahead), want);
        CHECK.due(name + ", asked late", answer(asked, 0, idle, ahead), want);
        CHECK.due(name + ", entered late", answer(asked, idle, 0, ahead), want);
    }

    private static long answer(Call asked, int idleAhead, int idleBehind, Call... ahead) {
        PlainLibrary x = new PlainLibrary();
        idle(x, idleAhead);
        for (Call call : ahead) {
            call.on(x);
        }
        idle(x, idleBehind);
        return asked.on(x);
    }

    private static void idle(PlainLibrary x, int calls) {
        for (int i = 0; i < calls; i++) {
            IDLE[i % IDLE.length].on(x);
        }
    }

    private static Call act(int sort, long a, long b, long day) {
        return x -> x.event(sort, a, b, day);
    }

    private static Call[] times(int n, Call call, Call... behind) {
        Call[] calls = new Call[n + behind.length];
        Arrays.fill(calls, 0, n, call);
        System.arraycopy(behind, 0, calls, n, behind.length);
        return calls;
    }

    // ---- What it is

    private static void whatItIs() {
        says("A library written down as one row of acts, and nothing else: whatever is asked is found by going through"
                + " it from its beginning;");
        Call lent = act(3, 1, 7, 20);
        Call ofRecord = act(2, 1, 5, 10);
        due("a copy of no record: refused()", 1, x -> x.refused(), lent);
        due("the record is entered behind: refused()", 0, x -> x.refused(), lent, ofRecord);
        due("the record is entered behind: counts(1)", 1, x -> x.counts(1), lent, ofRecord);
        due("the record is entered behind: due(1)", 48, x -> x.due(1), lent, ofRecord);
        due("the record is entered behind: state(1, 1, 20)", 7, x -> x.state(1, 1, 20), lent, ofRecord);
        says("larger than told, some questions are not tried.");
        due("most(7) with 100 acts", 0, x -> x.most(7), times(100, lent));
        due("most(7) with 101 acts", NOT_TRIED, x -> x.most(7), times(101, lent));
        due("least() with 30 acts", 3, x -> x.least(), times(30, lent));
        due("least() with 31 acts", NOT_TRIED, x -> x.least(), times(31, lent));
        due("refused() with 200 acts is tried", 200, x -> x.refused(), times(200, lent));
    }

    private static void atMost512Calls() {
        says("An object is used for at most 512 calls after it has been made; what later calls answer is free.");
        PlainLibrary entered = new PlainLibrary();
        for (int call = 1; call <= LAST_CALL; call++) {
            CHECK.due("call " + call + ": event", entered.event(9, 1, 1, LAST_CALL - call), call <= 200 ? call : 0);
        }
        PlainLibrary refused = new PlainLibrary();
        for (int call = 1; call < LAST_CALL; call++) {
            CHECK.due("call " + call + ": event", refused.event(9, 1, 10, 0), 0);
        }
        CHECK.due("call 512: the first event that is taken", refused.event(9, 1, 9, 0), 1);
        Call[] asked = {x -> x.counts(1), x -> x.events(), x -> x.refused(), x -> x.state(1, 1, 1),
            x -> x.heading(1, 0), x -> x.question(9, 0), x -> x.hit(0), x -> x.due(1), x -> x.queue(1, 0),
            x -> x.poll(1), x -> x.kept(8, 0, 0, 0), x -> x.most(7), x -> x.least()};
        long[] wants = {1, 9, 1, 7, 9, 1, 1, 29, 3, 6, 2, 1, 1};
        Call[] ahead = {act(2, 1, 1, 1), act(3, 1, 7, 1), act(0, 1, 9, 1), act(5, 1, 3, 1), act(7, 1, 1, 6),
            act(2, 2, 2, 0), act(3, 2, 8, 0), act(4, 2, 0, 0), act(6, 1, 4, 2), x -> x.question(9, 0)};
        for (int k = 0; k < asked.length; k++) {
            PlainLibrary x = new PlainLibrary();
            for (Call call : ahead) {
                call.on(x);
            }
            for (int call = ahead.length + 1; call <= LAST_CALL; call++) {
                CHECK.due("question " + k + " as call " + call, asked[k].on(x), wants[k]);
            }
        }
    }

    // ---- Terms

    private static void days() {
        says("DAYS are longs, 0 .. 1000000.");
        due("day 0", 1, act(9, 1, 1, 0));
        due("the last day", 1, act(9, 1, 1, LAST_DAY));
        due("a day below", 0, act(9, 1, 1, -1));
        due("a day above", 0, act(9, 1, 1, LAST_DAY + 1));
        due("a day that is no int", 0, act(9, 1, 1, 1L << 32));
        due("the least long", 0, act(9, 1, 1, Long.MIN_VALUE));
        due("the greatest long", 0, act(9, 1, 1, Long.MAX_VALUE));
    }

    private static void actsAndTheirOrder() {
        says("AN ACT has a sort, two numbers a, b (longs) and a day;");
        due("the sort is held apart", 2, x -> x.state(2, 1, 5), act(9, 1, 2, 5), act(0, 1, 3, 5));
        due("the first number is held", 0, x -> x.state(2, 2, 5), act(9, 1, 2, 5));
        due("the second number is held", 9, x -> x.state(2, 1, 5), act(9, 1, 9, 5));
        due("the day is held", 0, x -> x.state(2, 1, 4), act(9, 1, 9, 5));
        due("a number that is no int is not cut", 0, act(9, (1L << 32) + 1, 1, 5));
        due("nor is the second", 0, act(9, 1, (1L << 32) + 1, 5));
        says("acts are entered in any order of days, and count by days, those of one day as they were entered.");
        due("entered backwards: refused()", 0, x -> x.refused(), act(4, 1, 0, 3), act(3, 1, 7, 2), act(2, 1, 5, 1));
        due("the later day, entered first, is last", 3, x -> x.state(2, 1, 9), act(9, 1, 3, 9), act(9, 1, 4, 8));
        due("one day, lent first: refused()", 1, x -> x.refused(), act(3, 1, 7, 1), act(2, 1, 5, 1));
        due("one day, lent last: refused()", 0, x -> x.refused(), act(2, 1, 5, 1), act(3, 1, 7, 1));
        due("one day, another day between", 4, x -> x.state(2, 1, 9), act(9, 1, 3, 9), act(9, 1, 5, 8),
                act(9, 1, 4, 9));
    }

    private static void atMost200Acts() {
        says("At most 200 acts.");
        Call taken = act(9, 1, 1, 5);
        due("the 200th", 200, taken, times(199, taken));
        due("the 201st", 0, taken, times(200, taken));
        due("the 201st, ahead of all", 0, act(9, 1, 1, 0), times(200, taken));
        due("void ones are acts too", 0, taken, times(200, act(4, 1, 1, 5)));
        due("refused ones are none", 1, taken, times(201, act(9, 1, 10, 5)));
        due("the 201st is not done", 1, x -> x.state(2, 1, 9), times(200, taken, act(9, 1, 7, 9)));
    }

    private static void numbers() {
        says("RECORDS, COPIES, PERSONS, FILES are told by numbers 1 .. 20 each;");
        int[] firsts = {0, 1, 2, 3, 4, 5, 6, 7, 8, 9};
        int[] seconds = {2, 3, 5, 6};
        long[] wrong = {Long.MIN_VALUE, -1, 0, 21, (1L << 32) + 1, Long.MAX_VALUE};
        for (int sort : firsts) {
            due("sort " + sort + ", a is 1", 1, act(sort, 1, 1, 5));
            due("sort " + sort + ", a is 20", 1, act(sort, 20, 1, 5));
            for (long a : wrong) {
                due("sort " + sort + ", a is " + a, 0, act(sort, a, 1, 5));
            }
        }
        for (int sort : seconds) {
            due("sort " + sort + ", b is 20", 1, act(sort, 1, 20, 5));
            for (long b : wrong) {
                due("sort " + sort + ", b is " + b, 0, act(sort, 1, b, 5));
            }
        }
        says("they need not be told before.");
        due("a heading of record 20", 99, x -> x.heading(20, 0), act(0, 20, 99, 5));
        due("a record of copy 20", 20, x -> x.state(0, 20, 5), act(2, 20, 20, 5));
        due("a holder of record 20", 20, x -> x.queue(20, 0), act(5, 20, 20, 5));
        due("a store of file 20", 5, x -> x.poll(20), act(7, 20, 5, 5));
        says("SORTS:");
        for (int sort = 0; sort < SORTS; sort++) {
            due("sort " + sort, 1, act(sort, 1, 1, 5));
        }
        int[] others = {Integer.MIN_VALUE, -1, SORTS, Integer.MAX_VALUE};
        for (int sort : others) {
            due("sort " + sort, 0, act(sort, 1, 1, 5));
        }
    }

    private static void secondBound(int sort, long low, long high) {
        due("b is " + low, 1, act(sort, 1, low, 5));
        due("b is " + high, 1, act(sort, 1, high, 5));
        due("b is below", 0, act(sort, 1, low - 1, 5));
        due("b is above", 0, act(sort, 1, high + 1, 5));
    }

    private static void sortsOfHeadings() {
        says("0 a record a has a heading b (1 .. 99) more, if it has not;");
        secondBound(0, 1, 99);
        due("one more", 4, x -> x.heading(1, 1), act(0, 1, 3, 5), act(0, 1, 4, 5));
        due("not twice", NONE, x -> x.heading(1, 1), act(0, 1, 3, 5), act(0, 1, 3, 5));
        due("no other record", NONE, x -> x.heading(2, 0), act(0, 1, 3, 5));
        says("1 it has it no more;");
        secondBound(1, 1, 99);
        due("no more", NONE, x -> x.heading(1, 0), act(0, 1, 3, 5), act(1, 1, 3, 6));
        due("the other one yet", 4, x -> x.heading(1, 0), act(0, 1, 3, 5), act(0, 1, 4, 5), act(1, 1, 3, 6));
        due("another record yet", 3, x -> x.heading(2, 0), act(0, 1, 3, 5), act(0, 2, 3, 5), act(1, 1, 3, 6));
    }

    private static void sortsOfCopies() {
        Call ofFive = act(2, 1, 5, 10);
        Call lent = act(3, 1, 7, 20);
        says("2 a copy a is of record b from then on;");
        due("the day before", 0, x -> x.state(0, 1, 9), ofFive);
        due("from then on", 5, x -> x.state(0, 1, 10), ofFive);
        due("for ever", 5, x -> x.state(0, 1, LAST_DAY), ofFive);
        due("till it is of another one", 6, x -> x.state(0, 1, 12), ofFive, act(2, 1, 6, 12));
        says("3 a copy a is lent to person b;");
        due("the day before", 0, x -> x.state(1, 1, 19), ofFive, lent);
        due("from then on", 7, x -> x.state(1, 1, 20), ofFive, lent);
        due("it has no copy more", 0, x -> x.state(1, 2, 20), ofFive, lent);
        says("4 it is given back (b does not matter);");
        long[] any = {Long.MIN_VALUE, -1, 0, 7, 21, 1L << 32, Long.MAX_VALUE};
        for (long b : any) {
            due("taken, b is " + b, 3, act(4, 1, b, 30), ofFive, lent);
            due("the day before", 7, x -> x.state(1, 1, 29), ofFive, lent, act(4, 1, b, 30));
            due("from then on", 0, x -> x.state(1, 1, 30), ofFive, lent, act(4, 1, b, 30));
        }
    }

    private static void sortsOfQueues() {
        says("5 a person b holds record a: stands in its QUEUE, if it does not yet;");
        due("the first", 8, x -> x.queue(1, 0), act(5, 1, 8, 5), act(5, 1, 3, 6));
        due("the second", 3, x -> x.queue(1, 1), act(5, 1, 8, 5), act(5, 1, 3, 6));
        due("not twice", NONE, x -> x.queue(1, 1), act(5, 1, 8, 5), act(5, 1, 8, 6));
        due("in no other one", NONE, x -> x.queue(8, 0), act(5, 1, 8, 5));
        says("6 a person b is out of record a's QUEUE;");
        due("out", 3, x -> x.queue(1, 0), act(5, 1, 8, 5), act(5, 1, 3, 6), act(6, 1, 8, 7));
        due("the other is in it yet", NONE, x -> x.queue(1, 1), act(5, 1, 8, 5), act(5, 1, 3, 6), act(6, 1, 8, 7));
        due("in another one yet", 8, x -> x.queue(2, 0), act(5, 1, 8, 5), act(5, 2, 8, 5), act(6, 1, 8, 7));
    }

    private static void sortsOfFiles() {
        says("7 store b (1 .. 5) has of file a the sum that is told by its day: DAY modulo 7 (in place of the one"
                + " before);");
        secondBound(7, 1, 5);
        for (int day = 0; day <= 14; day++) {
            due("day " + day, day % 7, x -> x.poll(1), act(7, 1, 1, day));
        }
        due("the last day", 1, x -> x.poll(1), act(7, 1, 1, LAST_DAY));
        due("in place of the one before", 2, x -> x.poll(1), act(7, 1, 1, 1), act(7, 1, 1, 2));
        due("of another store: beside it", 7, x -> x.poll(1), act(7, 1, 1, 1), act(7, 1, 2, 2));
        says("8 store b has lost file a;");
        secondBound(8, 1, 5);
        due("lost", NONE, x -> x.poll(1), act(7, 1, 1, 1), act(8, 1, 1, 2));
        due("another store has it yet", 2, x -> x.poll(1), act(7, 1, 1, 1), act(7, 1, 2, 2), act(8, 1, 1, 3));
        due("another file is there yet", 1, x -> x.poll(2), act(7, 1, 1, 1), act(7, 2, 1, 1), act(8, 1, 1, 3));
    }

    private static void sortsOfClasses() {
        Call ofFive = act(2, 1, 5, 0);
        says("9 record a's CLASS is b (0 .. 9; 0 at first);");
        secondBound(9, 0, 9);
        due("0 at first", 0, x -> x.state(2, 1, 4), act(9, 1, 9, 5));
        due("then b", 9, x -> x.state(2, 1, 5), act(9, 1, 9, 5));
        due("no other record's", 0, x -> x.state(2, 2, 5), act(9, 1, 9, 5));
        says("10 a loan of a CLASS a (0 .. 9) lasts b days (1 .. 365; 28 at first) from then on, for loans lent behind"
                + " that act.");
        secondBound(10, 1, 365);
        due("class 0", 1, act(10, 0, 1, 5));
        due("class 9", 1, act(10, 9, 1, 5));
        due("class -1", 0, act(10, -1, 1, 5));
        due("class 10", 0, act(10, 10, 1, 5));
        due("28 at first", 33, x -> x.due(1), ofFive, act(3, 1, 7, 5));
        due("1 day", 6, x -> x.due(1), ofFive, act(10, 0, 1, 5), act(3, 1, 7, 5));
        due("365 days", 370, x -> x.due(1), ofFive, act(10, 0, 365, 4), act(3, 1, 7, 5));
        due("lent ahead of that act", 33, x -> x.due(1), ofFive, act(3, 1, 7, 5), act(10, 0, 365, 5));
        due("another class lasts so long", 33, x -> x.due(1), ofFive, act(10, 1, 365, 4), act(3, 1, 7, 5));
        due("class 9 lasts 3", 8, x -> x.due(1), ofFive, act(9, 5, 9, 0), act(10, 9, 3, 4), act(3, 1, 7, 5));
    }

    /** Whether the act that counts last of all is void. */
    private static void lastIs(String name, int counts, Call... acts) {
        due(name, counts, x -> x.counts(acts.length - 1), acts);
    }

    private static void voidLoans() {
        Call ofFive = act(2, 1, 5, 0);
        says("What is done against the state that there is then is VOID:");
        due("it is done nothing", 0, x -> x.state(1, 1, 1), act(3, 1, 7, 1));
        lastIs("it is void", 0, act(3, 1, 7, 1));
        says("3 a copy of no record,");
        lastIs("no record", 0, act(2, 2, 5, 0), act(3, 1, 7, 1));
        lastIs("of a record", 1, ofFive, act(3, 1, 7, 1));
        says("one that is lent,");
        lastIs("to another", 0, ofFive, act(3, 1, 7, 1), act(3, 1, 8, 2));
        lastIs("to the same", 0, ofFive, act(3, 1, 7, 1), act(3, 1, 7, 2));
        lastIs("given back", 1, ofFive, act(3, 1, 7, 1), act(4, 1, 7, 2), act(3, 1, 8, 3));
        says("or one of whose record somebody else is first in the QUEUE;");
        lastIs("not in the queue", 0, ofFive, act(5, 5, 8, 1), act(3, 1, 7, 2));
        lastIs("second in the queue", 0, ofFive, act(5, 5, 8, 1), act(5, 5, 7, 1), act(3, 1, 7, 2));
        lastIs("first in the queue", 1, ofFive, act(5, 5, 7, 1), act(5, 5, 8, 1), act(3, 1, 7, 2));
        lastIs("another record's queue", 1, ofFive, act(5, 6, 8, 1), act(3, 1, 7, 2));
        lastIs("the first is out", 1, ofFive, act(5, 5, 8, 1), act(6, 5, 8, 1), act(3, 1, 7, 2));
    }

    private static void voidOthers() {
        Call ofFive = act(2, 1, 5, 0);
        says("4 one that is not lent;");
        lastIs("never lent", 0, ofFive, act(4, 1, 0, 1));
        lastIs("given back already", 0, ofFive, act(3, 1, 7, 1), act(4, 1, 0, 2), act(4, 1, 0, 3));
        lastIs("lent", 1, ofFive, act(3, 1, 7, 1), act(4, 1, 0, 2));
        says("6 one that is not in it;");
        lastIs("never in it", 0, act(5, 5, 8, 0), act(6, 5, 7, 1));
        lastIs("in another one", 0, act(5, 6, 7, 0), act(6, 5, 7, 1));
        lastIs("in it", 1, act(5, 5, 7, 0), act(6, 5, 7, 1));
        says("0, 1, 5, 8 that change nothing;");
        lastIs("a heading that it has", 0, act(0, 1, 3, 0), act(0, 1, 3, 1));
        lastIs("a heading that it has not", 0, act(0, 1, 3, 0), act(1, 1, 4, 1));
        lastIs("one who stands in it", 0, act(5, 1, 3, 0), act(5, 1, 3, 1));
        lastIs("a store that has it not", 0, act(7, 1, 3, 0), act(8, 1, 4, 1));
        lastIs("another heading", 1, act(0, 1, 3, 0), act(0, 1, 4, 1));
        lastIs("a heading that it has", 1, act(0, 1, 3, 0), act(1, 1, 3, 1));
        lastIs("one who stands not in it", 1, act(5, 1, 3, 0), act(5, 1, 4, 1));
        lastIs("a store that has it", 1, act(7, 1, 3, 0), act(8, 1, 3, 1));
        says("2 one that is lent.");
        lastIs("lent", 0, ofFive, act(3, 1, 7, 1), act(2, 1, 6, 2));
        due("it is of its record yet", 5, x -> x.state(0, 1, 2), ofFive, act(3, 1, 7, 1), act(2, 1, 6, 2));
        lastIs("given back", 1, ofFive, act(3, 1, 7, 1), act(4, 1, 7, 1), act(2, 1, 6, 2));
    }

    private static void elseItCounts() {
        says("Else it COUNTS.");
        lastIs("2, though of that record already", 1, act(2, 1, 5, 0), act(2, 1, 5, 1));
        lastIs("7, though it has that sum already", 1, act(7, 1, 1, 0), act(7, 1, 1, 7));
        lastIs("9, though of that class already", 1, act(9, 1, 0, 0));
        lastIs("10, though it lasts so long already", 1, act(10, 1, 28, 0));
        says("(An act is VOID or COUNTS by those ahead of it, so that one that is entered later can alter that.)");
        due("void yet", 0, x -> x.counts(0), act(3, 1, 7, 9));
        due("entered behind it, of a later day: void yet", 0, x -> x.counts(0), act(3, 1, 7, 9), act(2, 1, 5, 10));
        due("entered behind it, of an earlier day: it counts", 1, x -> x.counts(1), act(3, 1, 7, 9), act(2, 1, 5, 8));
        due("and is void again", 0, x -> x.counts(2), act(3, 1, 7, 9), act(2, 1, 5, 8), act(5, 5, 8, 8));
    }

    private static void lendingAndDue() {
        Call ofFive = act(2, 1, 5, 0);
        says("Lending takes the person out of the record's QUEUE.");
        due("the next is first", 8, x -> x.queue(5, 0), ofFive, act(5, 5, 7, 1), act(5, 5, 8, 1), act(3, 1, 7, 2));
        due("and alone", NONE, x -> x.queue(5, 1), ofFive, act(5, 5, 7, 1), act(5, 5, 8, 1), act(3, 1, 7, 2));
        due("in another queue yet", 7, x -> x.queue(6, 0), ofFive, act(5, 6, 7, 1), act(3, 1, 7, 2));
        due("a void loan takes nobody out", 8, x -> x.queue(5, 0), ofFive, act(5, 5, 8, 1), act(5, 5, 7, 1),
                act(3, 1, 7, 2));
        says("A loan is DUE on its day and as many days more as the CLASS of the copy's record lasts then.");
        due("on the first day", 28, x -> x.due(1), ofFive, act(3, 1, 7, 0));
        due("on the last day", LAST_DAY + 28, x -> x.due(1), ofFive, act(3, 1, 7, LAST_DAY));
        due("the class then", 12, x -> x.due(1), ofFive, act(10, 4, 2, 0), act(9, 5, 4, 9), act(3, 1, 7, 10));
        due("a class of later", 38, x -> x.due(1), ofFive, act(10, 4, 2, 0), act(3, 1, 7, 10), act(9, 5, 4, 10));
        due("another record's class", 38, x -> x.due(1), ofFive, act(10, 4, 2, 0), act(9, 6, 4, 9),
                act(3, 1, 7, 10));
        says("THE STATE ON A DAY is what acts of days up to it make.");
        due("the day before", 1, x -> x.state(2, 1, 4), act(9, 1, 1, 3), act(9, 1, 2, 5), act(9, 1, 3, 6));
        due("the day itself", 2, x -> x.state(2, 1, 5), act(9, 1, 1, 3), act(9, 1, 2, 5), act(9, 1, 3, 6));
        due("all acts of that day", 4, x -> x.state(2, 1, 5), act(9, 1, 2, 5), act(9, 1, 4, 5), act(9, 1, 3, 6));
    }

    private static void constants() {
        says("The constants: `NONE = -1`: None such, or nothing.");
        CHECK.due("NONE", PlainLibrary.NONE, -1);
        due("counts(0) of no acts", -1, x -> x.counts(0));
        says("`NOT_TRIED = -9`: What is too large to be tried.");
        CHECK.due("NOT_TRIED", PlainLibrary.NOT_TRIED, -9);
        due("least() with 31 acts", -9, x -> x.least(), times(31, act(9, 1, 1, 1)));
    }

    // ---- the promises

    private static void promises1To5() {
        Call ofFive = act(2, 1, 5, 0);
        says("`PlainLibrary()`: No acts.");
        due("events()", 0, x -> x.events());
        due("refused()", 0, x -> x.refused());
        due("the first act", 1, ofFive);
        says("`int event(int sort, long a, long b, long day)`: An act more: how many there are; 0 if there is no such"
                + " sort, day, or number (a: a record for 0, 1, 5, 6, 9, a copy for 2, 3, 4, a file for 7, 8, a CLASS"
                + " for 10; b as told, any for 4), or there are 200.");
        due("the third", 3, ofFive, times(2, ofFive));
        due("a void one", 3, act(4, 1, 1, 1), times(2, ofFive));
        due("no such sort", 0, act(11, 1, 1, 1), times(2, ofFive));
        due("no such day", 0, act(2, 1, 1, LAST_DAY + 1), times(2, ofFive));
        due("no such a", 0, act(2, 0, 1, 1), times(2, ofFive));
        due("no such b", 0, act(2, 1, 0, 1), times(2, ofFive));
        due("no such class", 0, act(10, 10, 1, 1), times(2, ofFive));
        due("class 0 for 10", 3, act(10, 0, 1, 1), times(2, ofFive));
        due("any for 4", 3, act(4, 1, Long.MIN_VALUE, 1), times(2, ofFive));
        due("there are 200", 0, ofFive, times(200, ofFive));
        says("`int counts(int i)`: Whether the i-th act in the order in which they count, from 0 on, COUNTS: 1, or is"
                + " VOID: 0; NONE if there is none such.");
        Call[] acts = {act(9, 1, 1, 9), act(4, 1, 0, 5), act(9, 1, 1, 0)};
        int[] wants = {NONE, 1, 0, 1, NONE};
        for (int i = -1; i <= 3; i++) {
            int place = i;
            due("counts(" + i + ")", wants[i + 1], x -> x.counts(place), acts);
        }
        due("counts of the least int", NONE, x -> x.counts(Integer.MIN_VALUE), acts);
        due("counts of the greatest int", NONE, x -> x.counts(Integer.MAX_VALUE), acts);
        due("counts(199) of 200", 0, x -> x.counts(199), times(199, ofFive, act(4, 1, 0, 1)));
        says("`int events()`: How many acts there are.");
        due("three", 3, x -> x.events(), acts);
        due("refused ones are none", 3, x -> x.events(), times(3, ofFive, act(9, 1, 10, 0)));
        due("200", 200, x -> x.events(), times(201, ofFive));
        says("`int refused()`: How many acts are VOID.");
        due("one of three", 1, x -> x.refused(), acts);
        due("refused ones are no acts", 0, x -> x.refused(), times(3, ofFive, act(9, 1, 10, 0)));
        due("all 200", 200, x -> x.refused(), times(200, act(4, 1, 0, 1)));
    }

    private static void promise6() {
        says("`int state(int what, int n, long day)`: THE STATE ON A DAY, what 0: of copy n its record, or 0, 1: of"
                + " copy n the person who has it, or 0, 2: of record n its CLASS, 3: of record n how many copies are"
                + " there and not lent; NONE for no such n, or another what.");
        Call[] acts = {act(2, 20, 20, 1), act(2, 3, 20, 2), act(3, 20, 19, 3), act(9, 20, 9, 3), act(4, 20, 0, 5),
            act(2, 3, 1, 6)};
        int[][] wants = {{0, 20, 20, 20, 20, 20, 20}, {0, 0, 0, 19, 19, 0, 0}, {0, 0, 0, 9, 9, 9, 9},
            {0, 1, 2, 1, 1, 2, 1}};
        for (int w = 0; w <= 3; w++) {
            int what = w;
            for (int d = 0; d <= 6; d++) {
                long day = d;
                due("state(" + w + ", 20, " + d + ")", wants[w][d], x -> x.state(what, 20, day), acts);
            }
            int[] numbers = {Integer.MIN_VALUE, -1, 0, 21, Integer.MAX_VALUE};
            for (int n : numbers) {
                due("state(" + w + ", " + n + ", 6)", NONE, x -> x.state(what, n, 6), acts);
            }
        }
        int[] others = {Integer.MIN_VALUE, -1, 4, Integer.MAX_VALUE};
        for (int what : others) {
            due("state(" + what + ", 20, 6)", NONE, x -> x.state(what, 20, 6), acts);
        }
    }

    private static void promises7To9() {
        Call[] acts = {act(0, 1, 99, LAST_DAY), act(0, 1, 64, 2), act(0, 1, 1, 3), act(0, 20, 64, 4), act(0, 7, 64, 1),
            act(1, 1, 99, 1), act(0, 7, 1, 0)};
        says("`int heading(int record, int i)`: When all acts are done (as in all that follows but kept() and most()):"
                + " the i-th heading of a record, from 0 on, by their numbers; NONE.");
        int[] wants = {NONE, 1, 64, 99, NONE};
        for (int i = -1; i <= 3; i++) {
            int place = i;
            due("heading(1, " + i + ")", wants[i + 1], x -> x.heading(1, place), acts);
        }
        due("heading(2, 0)", NONE, x -> x.heading(2, 0), acts);
        due("heading(0, 0)", NONE, x -> x.heading(0, 0), acts);
        due("heading(21, 0)", NONE, x -> x.heading(21, 0), acts);
        says("`int question(int heading, int without)`: How many records have one heading and not another one (the"
                + " other one 0: whatever others); by records the i-th of them, from 0 on, is told by hit(); NONE if"
                + " the first is not 1 .. 99, the other not 0 .. 99.");
        int[][] asked = {{64, 0, 3}, {64, 1, 1}, {64, 99, 2}, {1, 0, 2}, {1, 64, 0}, {99, 0, 1}, {64, 64, 0}, {2, 0, 0},
            {0, 0, NONE}, {100, 0, NONE}, {64, -1, NONE}, {64, 100, NONE}, {-1, 0, NONE}};
        for (int[] q : asked) {
            due("question(" + q[0] + ", " + q[1] + ")", q[2], x -> x.question(q[0], q[1]), acts);
        }
        says("`int hit(int i)`: The i-th record, from 0 on, of the latest question() that was not NONE, as it was found"
                + " then; NONE.");
        Call question = x -> x.question(64, 0);
        int[] hits = {NONE, 1, 7, 20, NONE};
        for (int i = -1; i <= 3; i++) {
            Call hit = hitAt(i);
            due("hit(" + i + ")", hits[i + 1], hit, behind(acts, question));
            due("hit(" + i + ") behind a NONE", hits[i + 1], hit, behind(acts, question, x -> x.question(0, 0)));
            due("hit(" + i + ") as found then", hits[i + 1], hit,
                    behind(acts, question, act(1, 7, 64, 9), act(0, 2, 64, 9)));
            due("hit(" + i + ") without a question", NONE, hit, acts);
        }
        due("hit(0) of the latest", 20, hitAt(0), behind(acts, question, x -> x.question(64, 1)));
        due("hit(1) of the latest", NONE, hitAt(1), behind(acts, question, x -> x.question(64, 1)));
        due("hit(0) of none", NONE, hitAt(0), behind(acts, question, x -> x.question(2, 0)));
    }

    private static Call hitAt(int i) {
        return x -> x.hit(i);
    }

    private static Call[] behind(Call[] first, Call... more) {
        Call[] all = Arrays.copyOf(first, first.length + more.length);
        System.arraycopy(more, 0, all, first.length, more.length);
        return all;
    }

    private static void promises10To12() {
        says("`long due(int copy)`: The day on which a copy is DUE; NONE if it is not lent.");
        Call[] lent = {act(2, 20, 5, 0), act(3, 20, 7, 3)};
        due("lent", 31, x -> x.due(20), lent);
        due("given back", NONE, x -> x.due(20), behind(lent, act(4, 20, 0, 4)));
        due("never lent", NONE, x -> x.due(19), lent);
        due("due(0)", NONE, x -> x.due(0), lent);
        due("due(21)", NONE, x -> x.due(21), lent);
        says("`int queue(int record, int i)`: The i-th person, from 0 on, in a record's QUEUE; NONE.");
        Call[] queued = {act(5, 20, 9, 5), act(5, 20, 20, 4), act(5, 20, 1, 5)};
        int[] wants = {NONE, 20, 9, 1, NONE};
        for (int i = -1; i <= 3; i++) {
            int place = i;
            due("queue(20, " + i + ")", wants[i + 1], x -> x.queue(20, place), queued);
        }
        due("queue(19, 0)", NONE, x -> x.queue(19, 0), queued);
        due("queue(0, 0)", NONE, x -> x.queue(0, 0), queued);
        due("queue(21, 0)", NONE, x -> x.queue(21, 0), queued);
        says("`int poll(int file)`: THE SUM of a file that more than half of the stores that have it have, 0 .. 6; 7 if"
                + " there is none such; NONE if no store has it.");
        Call[] stores = {act(7, 20, 1, 13), act(7, 20, 2, 6), act(7, 20, 3, 5)};
        due("two of three", 6, x -> x.poll(20), stores);
        due("two of four", 7, x -> x.poll(20), behind(stores, act(7, 20, 4, 0)));
        due("three of five", 6, x -> x.poll(20), behind(stores, act(7, 20, 4, 0), act(7, 20, 5, 20)));
        due("one of one, 0", 0, x -> x.poll(1), act(7, 1, 1, 0));
        due("one of two that have it", 7, x -> x.poll(20), behind(stores, act(8, 20, 1, 14)));
        due("no store", NONE, x -> x.poll(19), stores);
        due("poll(0)", NONE, x -> x.poll(0), stores);
        due("poll(21)", NONE, x -> x.poll(21), stores);
    }

    private static void promise13() {
        says("`int kept(int person, int i, long day, int days)`: Of the acts that COUNT by which a copy was given back"
                + " that a person had, in their order, those whose day and days more (a long) is not below day: the"
                + " copy of the i-th, from 0 on; NONE if there is none such.");
        Call[] acts = {act(4, 1, 7, 20), act(4, 1, 7, 20), act(2, 1, 1, 0), act(2, 2, 1, 0), act(2, 3, 1, 0),
            act(3, 1, 7, 1), act(3, 2, 7, 1), act(3, 3, 8, 1), act(4, 2, 8, 10), act(4, 3, 7, 11)};
        int[] wants = {NONE, 2, 1, NONE};
        for (int i = -1; i <= 2; i++) {
            int place = i;
            due("kept(7, " + i + ", 0, 0)", wants[i + 1], x -> x.kept(7, place, 0, 0), acts);
        }
        due("kept(8, 0, 0, 0)", 3, x -> x.kept(8, 0, 0, 0), acts);
        due("kept(8, 1, 0, 0)", NONE, x -> x.kept(8, 1, 0, 0), acts);
        due("day 10 and 5 are not below 15", 2, x -> x.kept(7, 0, 15, 5), acts);
        due("day 10 and 5 are below 16", 1, x -> x.kept(7, 0, 16, 5), acts);
        due("day 20 and 5 are not below 25", 1, x -> x.kept(7, 0, 25, 5), acts);
        due("day 20 and 5 are below 26", NONE, x -> x.kept(7, 0, 26, 5), acts);
        due("the sum is a long", 1, x -> x.kept(7, 0, Integer.MAX_VALUE + 20L, Integer.MAX_VALUE), acts);
        due("the sum is below", NONE, x -> x.kept(7, 0, Integer.MAX_VALUE + 21L, Integer.MAX_VALUE), acts);
        due("kept(0, 0, 0, 0)", NONE, x -> x.kept(0, 0, 0, 0), acts);
        due("kept(21, 0, 0, 0)", NONE, x -> x.kept(21, 0, 0, 0), acts);
    }

    private static void promises14And15() {
        says("`int most(int person)`: The greatest number of copies that a person has behind any of the acts (0"
                + " without); NONE for no such person; else NOT_TRIED if there are more than 100 acts.");
        Call[] acts = {act(2, 1, 1, 0), act(2, 2, 1, 0), act(3, 1, 7, 1), act(3, 2, 7, 1), act(4, 1, 0, 1),
            act(4, 2, 0, 1), act(3, 2, 8, 1)};
        due("two for a while", 2, x -> x.most(7), acts);
        due("one at the end", 1, x -> x.most(8), acts);
        due("none", 0, x -> x.most(9), acts);
        due("without acts", 0, x -> x.most(7));
        due("most(0)", NONE, x -> x.most(0), acts);
        due("most(21)", NONE, x -> x.most(21), acts);
        due("100 acts", 2, x -> x.most(7), times(93, act(9, 1, 1, 0), acts));
        due("101 acts", NOT_TRIED, x -> x.most(7), times(94, act(9, 1, 1, 0), acts));
        due("101 acts, no such person", NONE, x -> x.most(21), times(94, act(9, 1, 1, 0), acts));
        says("`int least()`: How many acts are to be left out, at least, so that none of those that are left is VOID:"
                + " 0, 1 or 2; 3 if that is not enough; NOT_TRIED if there are more than 30 acts.");
        due("none is void", 0, x -> x.least(), acts);
        due("without acts", 0, x -> x.least());
        for (int voids = 1; voids <= 4; voids++) {
            due(voids + " void", Math.min(voids, 3), x -> x.least(), times(voids, act(4, 1, 0, 0), acts));
        }
        due("one in the way of four", 1, x -> x.least(), behind(acts, act(5, 1, 9, 0)));
        due("two in the way", 2, x -> x.least(), behind(acts, act(5, 1, 9, 0), act(5, 1, 10, 0)));
        due("three in the way", 3, x -> x.least(), behind(acts, act(5, 1, 9, 0), act(5, 1, 10, 0), act(5, 1, 11, 0)));
        due("30 acts", 2, x -> x.least(), times(28, act(9, 1, 1, 0), act(4, 1, 0, 0), act(4, 1, 0, 0)));
        due("31 acts", NOT_TRIED, x -> x.least(), times(31, act(9, 1, 1, 0)));
    }

    // ---- whether a sentence was passed over

    /** The sentences quoted above, one behind the other, are the document from its start to 'Not promised'. */
    private static void everySentenceIsQuoted() {
        if (!Files.isReadable(DOCUMENT)) {
            System.out.println("the document is not here: the quoted sentences were not compared with it");
            return;
        }
        CHECK.says("a sentence of the document that no test names yet gets one");
        String document = sentences();
        String quoted = String.join(" ", QUOTED);
        int same = 0;
        while (same < document.length() && same < quoted.length() && document.charAt(same) == quoted.charAt(same)) {
            same++;
        }
        String rest = document.substring(same, Math.min(document.length(), same + 60));
        CHECK.holds("quoted up to: " + rest, document.equals(quoted));
    }

    /** In one line, without titles and the block of the face, which is FaceTest's. */
    private static String sentences() {
        StringBuilder text = new StringBuilder();
        boolean inFace = false;
        for (String line : lines()) {
            if (line.equals("## Not promised")) {
                break;
            }
            if (line.startsWith("```")) {
                inFace = line.equals("```java");
            } else if (!inFace && !line.startsWith("#")) {
                text.append(line).append(' ');
            }
        }
        return text.toString().replaceAll("\\s+", " ").trim();
    }

    private static List<String> lines() {
        try {
            return Files.readAllLines(DOCUMENT);
        } catch (IOException unread) {
            return List.of();
        }
    }
}
