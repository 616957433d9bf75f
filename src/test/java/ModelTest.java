import java.util.ArrayList;
import java.util.Arrays;
import java.util.Comparator;
import java.util.HashMap;
import java.util.List;
import java.util.Map;
import java.util.Random;
import java.util.TreeMap;
import java.util.TreeSet;

/** Runs of calls drawn with a fixed seed, each answer held against a second writing of the document. */
public final class ModelTest {
    private static final Check CHECK = new Check();
    private static final Map<String, TreeSet<Long>> SEEN = new TreeMap<>();
    private static final int LAST_CALL = 512;
    private static final long[] ODD = {Long.MIN_VALUE, Integer.MIN_VALUE, -100, -2, -1, 0, 1, 5, 6, 9, 10, 19, 20, 21,
        99, 100, 365, 366, 999999, 1000000, 1000001, Integer.MAX_VALUE, 1L << 32, (1L << 32) + 1, Long.MAX_VALUE};

    /** The state that acts make, in maps: nothing in them is what the state is at first. */
    private static final class World {
        final Map<Long, TreeSet<Long>> headings = new HashMap<>();
        final Map<Long, Long> recordOf = new HashMap<>();
        final Map<Long, Long> loan = new HashMap<>();
        final Map<Long, Long> dueOf = new HashMap<>();
        final Map<Long, List<Long>> queues = new HashMap<>();
        final Map<Long, TreeMap<Long, Long>> files = new HashMap<>();
        final Map<Long, Long> classOf = new HashMap<>();
        final Map<Long, Long> lasts = new HashMap<>();

        TreeSet<Long> headings(long record) {
            return headings.computeIfAbsent(record, k -> new TreeSet<>());
        }

        List<Long> queue(long record) {
            return queues.computeIfAbsent(record, k -> new ArrayList<>());
        }

        TreeMap<Long, Long> stores(long file) {
            return files.computeIfAbsent(file, k -> new TreeMap<>());
        }

        boolean act(long[] act) {
            long a = act[1];
            long b = act[2];
            long day = act[3];
            switch ((int) act[0]) {
                case 0: return headings(a).add(b);
                case 1: return headings(a).remove(b);
                case 2:
                    if (loan.containsKey(a)) {
                        return false;
                    }
                    recordOf.put(a, b);
                    return true;
                case 3: return lend(a, b, day);
                case 4: return loan.remove(a) != null;
                case 5: return !queue(a).contains(b) && queue(a).add(b);
                case 6: return queue(a).remove((Long) b);
                case 7:
                    stores(a).put(b, day % 7);
                    return true;
                case 8: return stores(a).remove(b) != null;
                case 9:
                    classOf.put(a, b);
                    return true;
                default:
                    lasts.put(a, b);
                    return true;
            }
        }

        private boolean lend(long copy, long person, long day) {
            Long record = recordOf.get(copy);
            if (record == null || loan.containsKey(copy)) {
                return false;
            }
            List<Long> queue = queue(record);
            if (!queue.isEmpty() && queue.get(0) != person) {
                return false;
            }
            queue.remove((Long) person);
            loan.put(copy, person);
            dueOf.put(copy, day + lasts.getOrDefault(classOf.getOrDefault(record, 0L), 28L));
            return true;
        }

        long poll(long file) {
            TreeMap<Long, Long> stores = stores(file);
            if (stores.isEmpty()) {
                return -1;
            }
            for (long sum : stores.values()) {
                if (stores.values().stream().filter(s -> s == sum).count() * 2 > stores.size()) {
                    return sum;
                }
            }
            return 7;
        }
    }

    private static final class Model {
        private final List<long[]> entered = new ArrayList<>();
        private List<Long> hits = List.of();

        static boolean in(long n, long low, long high) {
            return low <= n && n <= high;
        }

        List<long[]> acts() {
            List<long[]> sorted = new ArrayList<>(entered);
            sorted.sort(Comparator.comparingLong(act -> act[3]));
            return sorted;
        }

        World upTo(long day) {
            World world = new World();
            acts().stream().filter(act -> act[3] <= day).forEach(world::act);
            return world;
        }

        World all() {
            return upTo(Long.MAX_VALUE);
        }

        static long at(List<Long> list, long i) {
            return in(i, 0, list.size() - 1) ? list.get((int) i) : -1;
        }

        long event(long sort, long a, long b, long day) {
            long[] lowA = {1, 1, 1, 1, 1, 1, 1, 1, 1, 1, 0};
            long[] highA = {20, 20, 20, 20, 20, 20, 20, 20, 20, 20, 9};
            long[] lowB = {1, 1, 1, 1, Long.MIN_VALUE, 1, 1, 1, 1, 0, 1};
            long[] highB = {99, 99, 20, 20, Long.MAX_VALUE, 20, 20, 5, 5, 9, 365};
            if (!in(sort, 0, 10) || !in(day, 0, 1000000) || entered.size() == 200) {
                return 0;
            }
            int s = (int) sort;
            if (!in(a, lowA[s], highA[s]) || !in(b, lowB[s], highB[s])) {
                return 0;
            }
            entered.add(new long[] {sort, a, b, day});
            return entered.size();
        }

        List<Boolean> verdicts() {
            World world = new World();
            List<Boolean> verdicts = new ArrayList<>();
            acts().forEach(act -> verdicts.add(world.act(act)));
            return verdicts;
        }

        long state(int what, long n, long day) {
            if (!in(n, 1, 20)) {
                return -1;
            }
            World world = upTo(day);
            switch (what) {
                case 0: return world.recordOf.getOrDefault(n, 0L);
                case 1: return world.loan.getOrDefault(n, 0L);
                case 2: return world.classOf.getOrDefault(n, 0L);
                case 3: return world.recordOf.entrySet().stream()
                        .filter(e -> e.getValue() == n && !world.loan.containsKey(e.getKey())).count();
                default: return -1;
            }
        }

        long question(long heading, long without) {
            if (!in(heading, 1, 99) || !in(without, 0, 99)) {
                return -1;
            }
            World world = all();
            hits = new ArrayList<>();
            for (long record = 1; record <= 20; record++) {
                TreeSet<Long> has = world.headings(record);
                if (has.contains(heading) && (without == 0 || !has.contains(without))) {
                    hits.add(record);
                }
            }
            return hits.size();
        }

        long kept(long person, long i, long day, int days) {
            World world = new World();
            List<Long> copies = new ArrayList<>();
            for (long[] act : acts()) {
                Long had = world.loan.get(act[1]);
                boolean counts = world.act(act);
                if (counts && act[0] == 4 && had == person && act[3] + days >= day) {
                    copies.add(act[1]);
                }
            }
            return at(copies, i);
        }

        long most(long person) {
            if (!in(person, 1, 20)) {
                return -1;
            }
            if (entered.size() > 100) {
                return -9;
            }
            World world = new World();
            long most = 0;
            for (long[] act : acts()) {
                world.act(act);
                most = Math.max(most, world.loan.values().stream().filter(p -> p == person).count());
            }
            return most;
        }

        long least() {
            int size = entered.size();
            if (size > 30) {
                return -9;
            }
            List<long[]> acts = acts();
            if (noneIsVoid(acts, -1, -1)) {
                return 0;
            }
            long least = 3;
            for (int i = 0; i < size; i++) {
                for (int j = 0; j <= i; j++) {
                    if (noneIsVoid(acts, i, j)) {
                        least = Math.min(least, i == j ? 1 : 2);
                    }
                }
            }
            return least;
        }

        private static boolean noneIsVoid(List<long[]> acts, int i, int j) {
            World world = new World();
            for (int k = 0; k < acts.size(); k++) {
                if (k != i && k != j && !world.act(acts.get(k))) {
                    return false;
                }
            }
            return true;
        }
    }

    /** How a run draws its numbers: narrow ones meet often, wide ones reach every edge. */
    private static final class Draw {
        final Random random;
        final int numbers;
        final int headings;
        final long days;
        final int acts;
        final boolean odd;

        Draw(long seed) {
            random = new Random(seed);
            numbers = new int[] {2, 3, 4, 8, 20}[random.nextInt(5)];
            headings = new int[] {3, 70, 99}[random.nextInt(3)];
            days = new long[] {3, 12, 40, 400, 1000000}[random.nextInt(5)];
            acts = new int[] {4, 8, 12, 25, 31, 80, 101, 230}[random.nextInt(8)];
            odd = random.nextInt(4) == 0;
        }

        long number() {
            return stray(1 + random.nextInt(numbers));
        }

        long stray(long ordinary) {
            return odd && random.nextInt(8) == 0 ? ODD[random.nextInt(ODD.length)] : ordinary;
        }

        int sort() {
            int[] often = {2, 2, 3, 3, 3, 4, 4, 5, 5, 6};
            int sort = random.nextInt(3) > 0 ? often[random.nextInt(often.length)] : random.nextInt(11);
            return (int) stray(sort);
        }

        long second(int sort) {
            switch (sort) {
                case 0:
                case 1: return stray(headings - random.nextInt(Math.min(headings, 5)));
                case 4: return random.nextLong();
                case 7:
                case 8: return stray(1 + random.nextInt(5));
                case 9: return stray(random.nextInt(3) == 0 ? random.nextInt(10) : random.nextInt(3));
                case 10: return stray(1 + random.nextInt(365));
                default: return number();
            }
        }

        long first(int sort) {
            return sort == 10 ? stray(random.nextInt(3) == 0 ? random.nextInt(10) : random.nextInt(3)) : number();
        }

        long day() {
            return stray(days == 1000000 ? random.nextInt(1000001) : random.nextInt((int) days));
        }
    }

    private static void due(String name, long got, long want, Object... arguments) {
        SEEN.computeIfAbsent(name, k -> new TreeSet<>()).add(want);
        CHECK.due(got == want ? name : name + Arrays.toString(arguments), got, want);
    }

    private static void ask(PlainLibrary x, Model m, Draw draw) {
        int n = (int) draw.number();
        int i = (int) draw.stray(draw.random.nextInt(4));
        long day = draw.day();
        World world = m.all();
        boolean known = Model.in(n, 1, 20);
        switch (draw.random.nextInt(14)) {
            case 0:
                int place = (int) draw.stray(draw.random.nextInt(m.entered.size() + 2) - 1);
                List<Boolean> verdicts = m.verdicts();
                due("counts", x.counts(place),
                        Model.in(place, 0, verdicts.size() - 1) ? (verdicts.get(place) ? 1 : 0) : -1, place);
                break;
            case 1:
                due("refused", x.refused(), m.verdicts().stream().filter(v -> !v).count());
                break;
            case 2:
            case 3:
                int what = (int) draw.stray(draw.random.nextInt(4));
                due("state", x.state(what, n, day), m.state(what, n, day), what, n, day);
                break;
            case 4:
                due("heading", x.heading(n, i), known ? Model.at(List.copyOf(world.headings(n)), i) : -1, n, i);
                break;
            case 5:
                int heading = (int) draw.second(0);
                int without = draw.random.nextInt(3) == 0 ? 0 : (int) draw.second(0);
                due("question", x.question(heading, without), m.question(heading, without), heading, without);
                break;
            case 6:
                due("hit", x.hit(i), Model.at(m.hits, i), i);
                break;
            case 7:
                long copy = n;
                due("due", x.due(n), known && world.loan.containsKey(copy) ? world.dueOf.get(copy) : -1, n);
                break;
            case 8:
                due("queue", x.queue(n, i), known ? Model.at(world.queue(n), i) : -1, n, i);
                break;
            case 9:
                due("poll", x.poll(n), known ? world.poll(n) : -1, n);
                break;
            case 10:
                int days = (int) draw.stray(draw.random.nextInt(60) - 20);
                due("kept", x.kept(n, i, day, days), m.kept(n, i, day, days), n, i, day, days);
                break;
            case 11:
                due("events", x.events(), m.entered.size());
                break;
            case 12:
                due("least", x.least(), m.least());
                break;
            default:
                due("most", x.most(n), m.most(n), n);
        }
    }

    private static void enter(PlainLibrary x, Model m, Draw draw) {
        int sort = draw.sort();
        long a = draw.first(sort);
        long b = draw.second(sort);
        long day = draw.day();
        due("event", x.event(sort, a, b, day), m.event(sort, a, b, day), sort, a, b, day);
    }

    /** An object is used for 512 calls, and each of them may be of any kind. */
    private static void wholeLife(long seed) {
        Draw draw = new Draw(seed);
        PlainLibrary x = new PlainLibrary();
        Model m = new Model();
        for (int call = 1; call <= LAST_CALL; call++) {
            if (draw.random.nextInt(LAST_CALL) < draw.acts) {
                enter(x, m, draw);
            } else {
                ask(x, m, draw);
            }
        }
    }

    private static void run(long seed) {
        Draw draw = new Draw(seed);
        PlainLibrary x = new PlainLibrary();
        Model m = new Model();
        for (int call = 0; call < draw.acts; call++) {
            enter(x, m, draw);
            if (draw.random.nextInt(4) == 0) {
                ask(x, m, draw);
            }
        }
        due("least", x.least(), m.least());
        for (int call = 0; call < 60; call++) {
            ask(x, m, draw);
        }
        due("least", x.least(), m.least());
    }

    public static void main(String[] args) {
        for (long seed = 1; seed <= 6000 && CHECK.isClean(); seed++) {
            run(seed);
            if (seed % 10 == 0) {
                wholeLife(seed);
            }
            if (!CHECK.isClean()) {
                System.out.println("in the run of seed " + seed);
            }
        }
        if (CHECK.isClean()) {
            // Answers that never came up would not have been compared.
            CHECK.holds("least() answered all of -9, 0, 1, 2, 3",
                    SEEN.get("least").equals(new TreeSet<>(List.of(-9L, 0L, 1L, 2L, 3L))));
            CHECK.holds("poll() answered all of -1 .. 7", SEEN.get("poll").size() == 9);
            CHECK.holds("most() answered -9 and -1", SEEN.get("most").containsAll(List.of(-9L, -1L, 0L, 3L)));
            CHECK.holds("event() answered 0 and 200", SEEN.get("event").containsAll(List.of(0L, 200L)));
        }
        CHECK.end();
    }
}
