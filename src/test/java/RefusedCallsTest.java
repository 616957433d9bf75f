import java.util.ArrayList;
import java.util.List;
import java.util.Random;
import java.util.function.ToLongFunction;

/**
 * A call that is refused (answered with 0, NONE or NOT_TRIED) leaves acts, hits and every later answer as they were,
 * and so does one that only asks: each such call is made on one of two objects that are otherwise used alike.
 */
public final class RefusedCallsTest {
    private static final Check CHECK = new Check();
    /** An object is used for at most 512 calls, of which up to 200 enter the acts. */
    private static final int ASKED_AT_ONCE = 250;
    private static final int[] SIZES = {0, 1, 12, 30, 31, 100, 101, 199, 200};
    private static final int NONE = -1;
    private static final int NOT_TRIED = -9;
    private static final int[] FAR = {Integer.MIN_VALUE, -1, Integer.MAX_VALUE};

    private record Call(String name, ToLongFunction<PlainLibrary> made) {
    }

    /** A call that is refused, and the answer that tells so. */
    private record Refusal(Call call, long due) {
    }

    public static void main(String[] args) {
        List<Call> everything = everything();
        for (int size : SIZES) {
            long[][] before = answers(size, null, everything);
            // Without hits to be lost, a call that loses them would not be seen.
            CHECK.holds("there are hits with " + size + " acts", size == 0 || library(size).hit(0) != NONE);
            for (Refusal refusal : refusals(size)) {
                Call call = refusal.call();
                CHECK.says("with " + size + " acts");
                CHECK.due(call.name(), call.made().applyAsLong(library(size)), refusal.due());
                same(size, call, everything, before);
            }
            List<Call> asking = size > 31 ? List.of() : everything;
            for (Call call : asking) {
                same(size, call, everything, before);
            }
        }
        CHECK.end();
    }

    private static void same(int size, Call call, List<Call> everything, long[][] before) {
        CHECK.says("behind " + size + " acts and " + call.name());
        long[][] behind = answers(size, call, everything);
        for (int i = 0; i < before.length; i++) {
            for (int k = 0; k < before[i].length; k++) {
                String name = k == 0 ? everything.get(i).name() : "what is called later (" + k + ")";
                CHECK.due(name, behind[i][k], before[i][k]);
            }
        }
    }

    /** All answers behind a call (none if it is null), on as many objects alike as are needed. */
    private static long[][] answers(int size, Call call, List<Call> everything) {
        long[][] answers = new long[everything.size()][];
        for (int from = 0; from < answers.length; from += ASKED_AT_ONCE) {
            PlainLibrary x = library(size);
            if (call != null) {
                call.made().applyAsLong(x);
            }
            int to = Math.min(answers.length, from + ASKED_AT_ONCE);
            for (int i = from; i < to; i++) {
                answers[i] = new long[] {everything.get(i).made().applyAsLong(x)};
            }
            answers[to - 1] = later(x, answers[to - 1][0]);
        }
        return answers;
    }

    /** What calls that alter something answer, at the end. */
    private static long[] later(PlainLibrary x, long last) {
        return new long[] {last, x.hit(0), x.hit(1), x.event(0, 3, 1, 400), x.event(2, 5, 2, 0),
            x.event(3, 5, 4, 1000000), x.events(), x.refused(), x.state(1, 5, 1000000), x.question(1, 2), x.hit(0),
            x.hit(1), x.hit(2)};
    }

    /** Always the same acts for a size, with the hits of a question that was asked behind the first few. */
    private static PlainLibrary library(int size) {
        Random random = new Random(size);
        PlainLibrary x = new PlainLibrary();
        int[] sorts = {0, 0, 1, 2, 2, 2, 3, 3, 3, 4, 4, 5, 5, 6, 7, 7, 8, 9, 10};
        for (int i = 0; i < size; i++) {
            int sort = i < 3 ? 0 : sorts[random.nextInt(sorts.length)];
            long b = i < 3 ? 1 : 1 + random.nextInt(5);
            long day = random.nextInt(5) == 0 ? random.nextInt(1000001) : random.nextInt(30);
            CHECK.due("event", x.event(sort, 1 + random.nextInt(5), b, day), i + 1);
            if (i == Math.min(2, size - 1)) {
                x.question(1, 0);
            }
        }
        return x;
    }

    private static List<Call> everything() {
        List<Call> calls = new ArrayList<>();
        calls.add(new Call("events()", x -> x.events()));
        calls.add(new Call("refused()", x -> x.refused()));
        calls.add(new Call("least()", x -> x.least()));
        for (int i = 0; i <= 200; i++) {
            int place = i;
            calls.add(new Call("counts(" + i + ")", x -> x.counts(place)));
        }
        for (int i = 0; i <= 20; i++) {
            int place = i;
            calls.add(new Call("hit(" + i + ")", x -> x.hit(place)));
        }
        long[] days = {0, 10, 20, 1000000};
        for (int k = 1; k <= 20; k++) {
            int n = k;
            for (long day : days) {
                for (int w = 0; w <= 3; w++) {
                    int what = w;
                    calls.add(new Call("state(" + w + ", " + n + ", " + day + ")", x -> x.state(what, n, day)));
                }
            }
            calls.add(new Call("due(" + n + ")", x -> x.due(n)));
            calls.add(new Call("poll(" + n + ")", x -> x.poll(n)));
            calls.add(new Call("most(" + n + ")", x -> x.most(n)));
        }
        for (int k = 1; k <= 6; k++) {
            int n = k;
            for (int i = 0; i < 6; i++) {
                int place = i;
                calls.add(new Call("heading(" + n + ", " + i + ")", x -> x.heading(n, place)));
                calls.add(new Call("queue(" + n + ", " + i + ")", x -> x.queue(n, place)));
                calls.add(new Call("kept(" + n + ", " + i + ", 12, 3)", x -> x.kept(n, place, 12, 3)));
            }
        }
        return calls;
    }

    /** The calls that are refused when there are so many acts. */
    private static List<Refusal> refusals(int size) {
        List<Refusal> calls = new ArrayList<>();
        refusedSortsAndDays(calls);
        refusedNumbers(calls);
        refusedQuestions(calls, size);
        if (size == 200) {
            for (int sort = 0; sort <= 10; sort++) {
                refusedEvent(calls, sort, 1, 1, 0);
                refusedEvent(calls, sort, 1, 1, 15);
                refusedEvent(calls, sort, 1, 1, 1000000);
            }
        }
        return calls;
    }

    private static void refuse(List<Refusal> calls, long due, String name, ToLongFunction<PlainLibrary> made) {
        calls.add(new Refusal(new Call(name, made), due));
    }

    private static void refusedEvent(List<Refusal> calls, int sort, long a, long b, long day) {
        refuse(calls, 0, "event(" + sort + ", " + a + ", " + b + ", " + day + ")", x -> x.event(sort, a, b, day));
    }

    private static void refusedSortsAndDays(List<Refusal> calls) {
        int[] sorts = {Integer.MIN_VALUE, -1, 11, Integer.MAX_VALUE};
        for (int sort : sorts) {
            refusedEvent(calls, sort, 1, 1, 5);
        }
        long[] days = {Long.MIN_VALUE, Integer.MIN_VALUE, -1, 1000001, Integer.MAX_VALUE, (1L << 32) + 5,
            Long.MAX_VALUE};
        for (int sort = 0; sort <= 10; sort++) {
            for (long day : days) {
                refusedEvent(calls, sort, 1, 1, day);
            }
        }
    }

    private static void refusedNumbers(List<Refusal> calls) {
        long[] lowA = {1, 1, 1, 1, 1, 1, 1, 1, 1, 1, 0};
        long[] highA = {20, 20, 20, 20, 20, 20, 20, 20, 20, 20, 9};
        long[] lowB = {1, 1, 1, 1, 0, 1, 1, 1, 1, 0, 1};
        long[] highB = {99, 99, 20, 20, 0, 20, 20, 5, 5, 9, 365};
        for (int sort = 0; sort <= 10; sort++) {
            long[] as = {Long.MIN_VALUE, lowA[sort] - 1, highA[sort] + 1, (1L << 32) + 1, Long.MAX_VALUE};
            for (long a : as) {
                refusedEvent(calls, sort, a, 1, 5);
            }
            long[] bs = {Long.MIN_VALUE, lowB[sort] - 1, highB[sort] + 1, (1L << 32) + 1, Long.MAX_VALUE};
            for (long b : bs) {
                if (sort != 4) {
                    refusedEvent(calls, sort, 1, b, 5);
                }
            }
        }
    }

    private static void refusedQuestions(List<Refusal> calls, int size) {
        refuse(calls, NONE, "counts(" + size + ")", x -> x.counts(size));
        refuse(calls, NONE, "question(0, 0)", x -> x.question(0, 0));
        refuse(calls, NONE, "question(100, 0)", x -> x.question(100, 0));
        refuse(calls, NONE, "question(1, 100)", x -> x.question(1, 100));
        refuse(calls, NONE, "hit(20)", x -> x.hit(20));
        refuse(calls, NONE, "state(4, 1, 15)", x -> x.state(4, 1, 15));
        for (int far : FAR) {
            refuse(calls, NONE, "counts(" + far + ")", x -> x.counts(far));
            refuse(calls, NONE, "question(" + far + ", 0)", x -> x.question(far, 0));
            refuse(calls, NONE, "question(1, " + far + ")", x -> x.question(1, far));
            refuse(calls, NONE, "hit(" + far + ")", x -> x.hit(far));
            refuse(calls, NONE, "state(" + far + ", 1, 15)", x -> x.state(far, 1, 15));
            refuse(calls, NONE, "heading(1, " + far + ")", x -> x.heading(1, far));
            refuse(calls, NONE, "queue(1, " + far + ")", x -> x.queue(1, far));
            refuse(calls, NONE, "kept(1, " + far + ", 0, 0)", x -> x.kept(1, far, 0, 0));
        }
        int[] noNumbers = {Integer.MIN_VALUE, -1, 0, 21, Integer.MAX_VALUE};
        for (int n : noNumbers) {
            for (int w = 0; w <= 3; w++) {
                int what = w;
                refuse(calls, NONE, "state(" + w + ", " + n + ", 15)", x -> x.state(what, n, 15));
            }
            refuse(calls, NONE, "heading(" + n + ", 0)", x -> x.heading(n, 0));
            refuse(calls, NONE, "due(" + n + ")", x -> x.due(n));
            refuse(calls, NONE, "queue(" + n + ", 0)", x -> x.queue(n, 0));
            refuse(calls, NONE, "poll(" + n + ")", x -> x.poll(n));
            refuse(calls, NONE, "kept(" + n + ", 0, 0, 0)", x -> x.kept(n, 0, 0, 0));
            refuse(calls, NONE, "most(" + n + ")", x -> x.most(n));
        }
        if (size > 100) {
            refuse(calls, NOT_TRIED, "most(1)", x -> x.most(1));
        }
        if (size > 30) {
            refuse(calls, NOT_TRIED, "least()", x -> x.least());
        }
    }
}
