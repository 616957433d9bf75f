import java.util.Arrays;

/**
 * A library written down as one row of acts, and nothing else: whatever is
 * asked is found by going through the row from its beginning.
 */
public final class PlainLibrary {
    public static final int NONE = -1;
    public static final int NOT_TRIED = -9;

    /** Records, copies, persons and files are each told by 1 .. NUMBERS. */
    private static final int NUMBERS = 20;
    private static final int HEADINGS = 99;
    private static final int STORES = 5;
    private static final int CLASSES = 10;
    private static final int LONGEST_LOAN = 365;
    private static final int LOAN_AT_FIRST = 28;
    private static final int SUMS = 7;
    private static final int NO_COMMON_SUM = 7;
    private static final long LAST_DAY = 1000000L;

    private static final int ROOM_FOR_ACTS = 200;
    private static final int ACTS_FOR_MOST = 100;
    private static final int ACTS_FOR_LEAST = 30;
    private static final int MORE_THAN_TWO = 3;

    private static final int ADD_HEADING = 0;
    private static final int DROP_HEADING = 1;
    private static final int SET_RECORD = 2;
    private static final int LEND = 3;
    private static final int GIVE_BACK = 4;
    private static final int JOIN_QUEUE = 5;
    private static final int LEAVE_QUEUE = 6;
    private static final int KEEP_FILE = 7;
    private static final int LOSE_FILE = 8;
    private static final int SET_CLASS = 9;
    private static final int SET_LOAN = 10;

    private final Row row;
    private final Shelves shelves;
    private final int[] hits;
    private int hitCount;

    public PlainLibrary() {
        row = new Row();
        shelves = new Shelves();
        hits = new int[NUMBERS];
        hitCount = 0;
    }

    public int event(int sort, long a, long b, long day) {
        if (!isWithin(day, 0, LAST_DAY) || !isAct(sort, a, b)) {
            return 0;
        }
        // For a copy given back b does not matter, and it may not fit an int.
        int second = sort == GIVE_BACK ? 0 : (int) b;
        return row.insert(sort, (int) a, second, day) ? row.size() : 0;
    }

    public int counts(int i) {
        if (i < 0 || i >= row.size()) {
            return NONE;
        }
        shelves.clear();
        for (int k = 0; k < i; k++) {
            row.perform(k, shelves);
        }
        return row.perform(i, shelves) ? 1 : 0;
    }

    public int events() {
        return row.size();
    }

    public int refused() {
        int voids = 0;
        shelves.clear();
        for (int k = 0; k < row.size(); k++) {
            if (!row.perform(k, shelves)) {
                voids++;
            }
        }
        return voids;
    }

    public int state(int what, int n, long day) {
        if (!isNumber(n)) {
            return NONE;
        }
        performUpTo(day);
        switch (what) {
            case 0:
                return shelves.recordOf(n);
            case 1:
                return shelves.personWith(n);
            case 2:
                return shelves.classOf(n);
            case 3:
                return shelves.copiesThereOf(n);
            default:
                return NONE;
        }
    }

    public int heading(int record, int i) {
        if (!isNumber(record) || i < 0) {
            return NONE;
        }
        performAll();
        return shelves.headingAt(record, i);
    }

    public int question(int heading, int without) {
        if (!isWithin(heading, 1, HEADINGS) || !isWithin(without, 0, HEADINGS)) {
            return NONE;
        }
        performAll();
        hitCount = 0;
        for (int record = 1; record <= NUMBERS; record++) {
            // No record ever has heading 0, so a without of 0 shuts none out.
            if (shelves.hasHeading(record, heading) && !shelves.hasHeading(record, without)) {
                hits[hitCount] = record;
                hitCount++;
            }
        }
        return hitCount;
    }

    public int hit(int i) {
        return i >= 0 && i < hitCount ? hits[i] : NONE;
    }

    public long due(int copy) {
        if (!isNumber(copy)) {
            return NONE;
        }
        performAll();
        return shelves.dueDayOf(copy);
    }

    public int queue(int record, int i) {
        if (!isNumber(record) || i < 0) {
            return NONE;
        }
        performAll();
        return shelves.personAt(record, i);
    }

    public int poll(int file) {
        if (!isNumber(file)) {
            return NONE;
        }
        performAll();
        return shelves.commonSumOf(file);
    }

    public int kept(int person, int i, long day, int days) {
        if (!isNumber(person) || i < 0) {
            return NONE;
        }
        int ahead = 0;
        shelves.clear();
        for (int k = 0; k < row.size(); k++) {
            int copy = row.copyGivenBackBy(k);
            // Who had the copy is known only ahead of the act that takes it from them.
            boolean had = copy != NONE && shelves.personWith(copy) == person;
            boolean counted = row.perform(k, shelves);
            if (had && counted && row.dayOf(k) + days >= day) {
                if (ahead == i) {
                    return copy;
                }
                ahead++;
            }
        }
        return NONE;
    }

    public int most(int person) {
        if (!isNumber(person)) {
            return NONE;
        }
        if (row.size() > ACTS_FOR_MOST) {
            return NOT_TRIED;
        }
        int greatest = 0;
        shelves.clear();
        for (int k = 0; k < row.size(); k++) {
            row.perform(k, shelves);
            greatest = Math.max(greatest, shelves.copiesWith(person));
        }
        return greatest;
    }

    public int least() {
        if (row.size() > ACTS_FOR_LEAST) {
            return NOT_TRIED;
        }
        int end = firstVoidWithout(NONE, NONE);
        if (end == NONE) {
            return 0;
        }
        if (oneLessIsEnough(end)) {
            return 1;
        }
        return twoLessAreEnough(end) ? 2 : MORE_THAN_TWO;
    }

    private static boolean isWithin(long n, long lowest, long highest) {
        return n >= lowest && n <= highest;
    }

    private static boolean isNumber(long n) {
        return isWithin(n, 1, NUMBERS);
    }

    private static boolean isAct(int sort, long a, long b) {
        switch (sort) {
            case ADD_HEADING:
            case DROP_HEADING:
                return isNumber(a) && isWithin(b, 1, HEADINGS);
            case SET_RECORD:
            case LEND:
            case JOIN_QUEUE:
            case LEAVE_QUEUE:
                return isNumber(a) && isNumber(b);
            case GIVE_BACK:
                return isNumber(a);
            case KEEP_FILE:
            case LOSE_FILE:
                return isNumber(a) && isWithin(b, 1, STORES);
            case SET_CLASS:
                return isNumber(a) && isWithin(b, 0, CLASSES - 1);
            case SET_LOAN:
                return isWithin(a, 0, CLASSES - 1) && isWithin(b, 1, LONGEST_LOAN);
            default:
                return false;
        }
    }

    private void performAll() {
        performUpTo(LAST_DAY);
    }

    private void performUpTo(long day) {
        shelves.clear();
        for (int k = 0; k < row.size() && row.dayOf(k) <= day; k++) {
            row.perform(k, shelves);
        }
    }

    /** The place of the first act that is void when those at i and j are left out; NONE if none is. */
    private int firstVoidWithout(int i, int j) {
        shelves.clear();
        for (int k = 0; k < row.size(); k++) {
            if (k != i && k != j && !row.perform(k, shelves)) {
                return k;
            }
        }
        return NONE;
    }

    /** What is left out behind the first void act leaves it void, so only those up to it are tried. */
    private boolean oneLessIsEnough(int firstVoid) {
        for (int i = 0; i <= firstVoid; i++) {
            if (firstVoidWithout(i, NONE) == NONE) {
                return true;
            }
        }
        return false;
    }

    /** As with one: the first left out is at or ahead of the first void act, the second of the next. */
    private boolean twoLessAreEnough(int firstVoid) {
        for (int i = 0; i <= firstVoid; i++) {
            int nextVoid = firstVoidWithout(i, NONE);
            for (int j = i + 1; j <= nextVoid; j++) {
                if (firstVoidWithout(i, j) == NONE) {
                    return true;
                }
            }
        }
        return false;
    }

    /** The acts, in the order in which they count. */
    private static final class Row {
        private final int[] sorts;
        private final int[] firsts;
        private final int[] seconds;
        private final long[] days;
        private int size;

        Row() {
            sorts = new int[ROOM_FOR_ACTS];
            firsts = new int[ROOM_FOR_ACTS];
            seconds = new int[ROOM_FOR_ACTS];
            days = new long[ROOM_FOR_ACTS];
            size = 0;
        }

        int size() {
            return size;
        }

        long dayOf(int k) {
            return days[k];
        }

        int copyGivenBackBy(int k) {
            return sorts[k] == GIVE_BACK ? firsts[k] : NONE;
        }

        boolean perform(int k, Shelves shelves) {
            return shelves.perform(sorts[k], firsts[k], seconds[k], days[k]);
        }

        /** Takes an act more; false if there is no room. */
        boolean insert(int sort, int a, int b, long day) {
            if (size >= ROOM_FOR_ACTS) {
                return false;
            }
            int place = placeFor(day);
            int behind = size - place;
            System.arraycopy(sorts, place, sorts, place + 1, behind);
            System.arraycopy(firsts, place, firsts, place + 1, behind);
            System.arraycopy(seconds, place, seconds, place + 1, behind);
            System.arraycopy(days, place, days, place + 1, behind);
            sorts[place] = sort;
            firsts[place] = a;
            seconds[place] = b;
            days[place] = day;
            size++;
            return true;
        }

        /** Behind all acts of the same day: those count as they were entered. */
        private int placeFor(long day) {
            int place = size;
            while (place > 0 && days[place - 1] > day) {
                place--;
            }
            return place;
        }
    }

    /**
     * What the acts performed since clear() make. Every number that comes in
     * has been looked at on the face; index 0 of a row by numbers stays unused.
     */
    private static final class Shelves {
        private static final int WORDS = 2;
        private static final int BITS = 64;

        private final long[] headingBits;
        private final int[] records;
        private final int[] persons;
        private final long[] dueDays;
        private final int[] queued;
        private final int[] queueLengths;
        private final int[] classes;
        private final int[] loanDays;
        private final int[] sums;

        Shelves() {
            headingBits = new long[(NUMBERS + 1) * WORDS];
            records = new int[NUMBERS + 1];
            persons = new int[NUMBERS + 1];
            dueDays = new long[NUMBERS + 1];
            queued = new int[(NUMBERS + 1) * NUMBERS];
            queueLengths = new int[NUMBERS + 1];
            classes = new int[NUMBERS + 1];
            loanDays = new int[CLASSES];
            sums = new int[(NUMBERS + 1) * (STORES + 1)];
        }

        /** Due days and queued persons need no clearing: they are read only behind a loan or a length. */
        void clear() {
            Arrays.fill(headingBits, 0L);
            Arrays.fill(records, 0);
            Arrays.fill(persons, 0);
            Arrays.fill(queueLengths, 0);
            Arrays.fill(classes, 0);
            Arrays.fill(loanDays, LOAN_AT_FIRST);
            Arrays.fill(sums, NONE);
        }

        /** Does an act if it counts, and tells whether it does. */
        boolean perform(int sort, int a, int b, long day) {
            switch (sort) {
                case ADD_HEADING:
                    return addHeading(a, b);
                case DROP_HEADING:
                    return dropHeading(a, b);
                case SET_RECORD:
                    return setRecord(a, b);
                case LEND:
                    return lend(a, b, day);
                case GIVE_BACK:
                    return giveBack(a);
                case JOIN_QUEUE:
                    return joinQueue(a, b);
                case LEAVE_QUEUE:
                    return leaveQueue(a, b);
                case KEEP_FILE:
                    sums[sumIndex(a, b)] = (int) (day % SUMS);
                    return true;
                case LOSE_FILE:
                    return loseFile(a, b);
                case SET_CLASS:
                    classes[a] = b;
                    return true;
                case SET_LOAN:
                    loanDays[a] = b;
                    return true;
                default:
                    return false;
            }
        }

        int recordOf(int copy) {
            return records[copy];
        }

        int personWith(int copy) {
            return persons[copy];
        }

        int classOf(int record) {
            return classes[record];
        }

        int copiesThereOf(int record) {
            int copies = 0;
            for (int copy = 1; copy <= NUMBERS; copy++) {
                if (records[copy] == record && persons[copy] == 0) {
                    copies++;
                }
            }
            return copies;
        }

        int copiesWith(int person) {
            int copies = 0;
            for (int copy = 1; copy <= NUMBERS; copy++) {
                if (persons[copy] == person) {
                    copies++;
                }
            }
            return copies;
        }

        boolean hasHeading(int record, int heading) {
            return (headingBits[wordIndex(record, heading)] & bitOf(heading)) != 0;
        }

        int headingAt(int record, int i) {
            int ahead = 0;
            for (int heading = 1; heading <= HEADINGS; heading++) {
                if (hasHeading(record, heading)) {
                    if (ahead == i) {
                        return heading;
                    }
                    ahead++;
                }
            }
            return NONE;
        }

        long dueDayOf(int copy) {
            return persons[copy] == 0 ? NONE : dueDays[copy];
        }

        int personAt(int record, int i) {
            return i >= 0 && i < queueLengths[record] ? queued[record * NUMBERS + i] : NONE;
        }

        int commonSumOf(int file) {
            int stores = 0;
            for (int sum = 0; sum < SUMS; sum++) {
                stores += storesWith(file, sum);
            }
            if (stores == 0) {
                return NONE;
            }
            for (int sum = 0; sum < SUMS; sum++) {
                if (2 * storesWith(file, sum) > stores) {
                    return sum;
                }
            }
            return NO_COMMON_SUM;
        }

        private int storesWith(int file, int sum) {
            int stores = 0;
            for (int store = 1; store <= STORES; store++) {
                if (sums[sumIndex(file, store)] == sum) {
                    stores++;
                }
            }
            return stores;
        }

        private static int sumIndex(int file, int store) {
            return file * (STORES + 1) + store;
        }

        private static int wordIndex(int record, int heading) {
            return record * WORDS + heading / BITS;
        }

        private static long bitOf(int heading) {
            return 1L << (heading % BITS);
        }

        private boolean addHeading(int record, int heading) {
            if (hasHeading(record, heading)) {
                return false;
            }
            headingBits[wordIndex(record, heading)] |= bitOf(heading);
            return true;
        }

        private boolean dropHeading(int record, int heading) {
            if (!hasHeading(record, heading)) {
                return false;
            }
            headingBits[wordIndex(record, heading)] &= ~bitOf(heading);
            return true;
        }

        private boolean setRecord(int copy, int record) {
            if (persons[copy] != 0) {
                return false;
            }
            records[copy] = record;
            return true;
        }

        private boolean lend(int copy, int person, long day) {
            int record = records[copy];
            if (record == 0 || persons[copy] != 0) {
                return false;
            }
            int next = personAt(record, 0);
            if (next != NONE && next != person) {
                return false;
            }
            leaveQueue(record, person);
            persons[copy] = person;
            dueDays[copy] = day + loanDays[classes[record]];
            return true;
        }

        private boolean giveBack(int copy) {
            if (persons[copy] == 0) {
                return false;
            }
            persons[copy] = 0;
            return true;
        }

        private int placeInQueue(int record, int person) {
            for (int i = 0; i < queueLengths[record]; i++) {
                if (queued[record * NUMBERS + i] == person) {
                    return i;
                }
            }
            return NONE;
        }

        private boolean joinQueue(int record, int person) {
            int length = queueLengths[record];
            // Nobody stands twice in a queue, so a full one already has the person.
            if (length >= NUMBERS || placeInQueue(record, person) != NONE) {
                return false;
            }
            queued[record * NUMBERS + length] = person;
            queueLengths[record] = length + 1;
            return true;
        }

        private boolean leaveQueue(int record, int person) {
            int place = placeInQueue(record, person);
            if (place == NONE) {
                return false;
            }
            int gap = record * NUMBERS + place;
            System.arraycopy(queued, gap + 1, queued, gap, queueLengths[record] - place - 1);
            queueLengths[record]--;
            return true;
        }

        private boolean loseFile(int file, int store) {
            int index = sumIndex(file, store);
            if (sums[index] == NONE) {
                return false;
            }
            sums[index] = NONE;
            return true;
        }
    }
}
