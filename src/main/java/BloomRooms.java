import java.util.Arrays;

/** Pupils who will bloom: children in rooms, what is held of them, what grows of it and how sure that is. */
public final class BloomRooms {
    /** There is none. */
    public static final int NONE = -1;

    private static final int MOST_ROOMS = 18;
    private static final int MOST_CHILDREN = 40;
    private static final int MOST_YEARS = 6;
    private static final int TESTS = 6;
    private static final int WAYS = 3;
    private static final int KEPT_LAWS = 4;
    private static final int IMAGES = 2;
    private static final int ROWS = 4;
    private static final int ROW_LENGTH = 40;
    private static final int MOST_POINTS = 200;
    private static final int MOST_WEEKS = 20;
    private static final int MOST_NEEDED = 40000;

    private static final int NAMED = 1;
    private static final int BAD = 3;
    private static final int MARKED = 4;
    private static final int HEARD = 5;

    private static final int BY_FAULT = 1;
    private static final int NO_SUCH = 2;
    private static final int WRONG_NUMBER = 3;
    private static final int FULL = 4;
    private static final int NOT_NOW = 5;
    private static final int MISSING_ROW = 6;
    private static final int SHORT_ROW = 7;

    private static final int NO_VALUE = -1000;
    private static final int NO_MEAN = -1000000;

    private final World world = new World();
    private final World[] images = new World[IMAGES];
    private final boolean[] imaged = new boolean[IMAGES];
    private final Reader reader = new Reader();
    private final Sample sample = new Sample();
    private final Ways ways = new Ways();
    private final Fraction latest = new Fraction();
    private final Fraction first = new Fraction();
    private final Fraction second = new Fraction();
    private final long[][] rows = new long[ROWS][ROW_LENGTH];
    private final int[] rowSorts = new int[ROWS];
    private final int[] rowSizes = new int[ROWS];
    private final int[] refused = new int[SHORT_ROW + 1];

    public BloomRooms() {
        for (int i = 0; i < IMAGES; i++) {
            images[i] = new World();
        }
        Arrays.fill(rowSizes, NONE);
    }

    // ---- children

    public int room(int weeks, boolean forgets) {
        if (outside(weeks, 0, MOST_WEEKS)) {
            return refuse(WRONG_NUMBER);
        }
        if (world.rooms >= MOST_ROOMS) {
            return refuse(FULL);
        }
        return world.addRoom(weeks, forgets);
    }

    public int child(int room, int grade, int gift) {
        if (outside(room, 0, world.rooms - 1)) {
            return refuse(NO_SUCH);
        }
        if (outside(grade, 1, 6) || outside(gift, 0, 200)) {
            return refuse(WRONG_NUMBER);
        }
        if (world.children >= MOST_CHILDREN) {
            return refuse(FULL);
        }
        return world.addChild(room, grade, gift);
    }

    public int word(int child, int word) {
        if (noChild(child)) {
            return refuse(NO_SUCH);
        }
        if (outside(word, 0, HEARD)) {
            return refuse(WRONG_NUMBER);
        }
        int before = world.word[child];
        world.word[child] = word;
        return before;
    }

    public int gone(int child) {
        if (noChild(child)) {
            return refuse(NO_SUCH);
        }
        if (world.gone[child]) {
            return refuse(NOT_NOW);
        }
        world.gone[child] = true;
        return 0;
    }

    public int of(int child, int what) {
        if (noChild(child) || outside(what, 0, 6)) {
            refuse(NO_SUCH);
            return NO_VALUE;
        }
        switch (what) {
            case 0:
                return world.room[child];
            case 1:
                return world.grade[child];
            case 2:
                return world.gift[child];
            case 3:
                return world.word[child];
            case 4:
                return world.gone[child] ? 0 : 1;
            case 5:
                return world.holdOf(world.law, child, world.years);
            default:
                return world.growthOf(world.law, child, world.years);
        }
    }

    public int given(int child, int way) {
        if (noChild(child) || outside(way, 0, WAYS - 1)) {
            refuse(NO_SUCH);
            return NO_VALUE;
        }
        return world.law.gives(world.holdOf(world.law, child, world.years), way);
    }

    // ---- texts

    public int feed(int a, int b, int c, int d, int e) {
        Tokens tokens = reader.tokens;
        if (tokens.size + 20 > Tokens.MOST_BYTES) {
            return refuse(FULL);
        }
        tokens.append(a);
        tokens.append(b);
        tokens.append(c);
        tokens.append(d);
        tokens.append(e);
        return tokens.size;
    }

    public int text(int what, int n) {
        if (outside(what, 0, 1)) {
            return refuse(NO_SUCH);
        }
        if (outside(n, 0, reader.tokens.size)) {
            return refuse(WRONG_NUMBER);
        }
        boolean right = what == 0 ? reader.readLaw(n) : reader.readRules(n);
        reader.tokens.size = 0;
        if (!right) {
            refuse(BY_FAULT);
            return -10 - reader.fault;
        }
        if (what == 0) {
            world.law.copy(reader.law);
            return world.law.lines;
        }
        world.rules.copy(reader.rules);
        return world.rules.rules;
    }

    public int fault(int what) {
        if (what == 0) {
            return reader.fault;
        }
        return what == 1 ? reader.place : NONE;
    }

    // ---- years, tests, dealings

    public int year() {
        if (world.years >= MOST_YEARS) {
            return refuse(NOT_NOW);
        }
        return world.passYear();
    }

    public int give(int test, int seed, boolean knew) {
        if (noTest(test)) {
            return refuse(NO_SUCH);
        }
        return world.giveTest(test, seed, knew);
    }

    public int point(int child, int test) {
        if (noChild(child) || noTest(test)) {
            return refuse(NO_SUCH);
        }
        return world.points[test][child];
    }

    public int tell(int child, int test, int points) {
        if (noChild(child) || noTest(test)) {
            return refuse(NO_SUCH);
        }
        if (outside(points, NONE, MOST_POINTS)) {
            return refuse(WRONG_NUMBER);
        }
        int before = world.points[test][child];
        world.points[test][child] = points;
        return before;
    }

    public int deal(boolean rooms, int many, int seed) {
        if (outside(many, 0, MOST_CHILDREN)) {
            return refuse(WRONG_NUMBER);
        }
        if (world.rooms == 0) {
            return refuse(NOT_NOW);
        }
        if (rooms) {
            world.dealByRooms(many, seed);
        } else {
            world.dealByChildren(many, seed);
        }
        return world.namedOnes();
    }

    // ---- what was grown

    public int read(int a, int b, int what) {
        if (noTest(a) || noTest(b) || outside(what, 0, 2)) {
            return refuse(NO_SUCH);
        }
        if (a == b) {
            return refuse(WRONG_NUMBER);
        }
        world.gather(sample, a, b, false);
        int all = sample.size;
        if (what == 0) {
            return all;
        }
        if (what == 1) {
            return sample.namedOnes();
        }
        world.gather(sample, a, b, true);
        return all - sample.size;
    }

    public int grew(int child, int a, int b) {
        if (noChild(child) || noTest(a) || noTest(b) || a == b || !world.isRead(child, a, b)) {
            return NO_VALUE;
        }
        return world.points[b][child] - world.points[a][child];
    }

    public int effect(int a, int b, int what) {
        if (noTest(a) || noTest(b) || outside(what, 0, 4)) {
            return refuse(NO_SUCH);
        }
        if (a == b) {
            return refuse(WRONG_NUMBER);
        }
        world.gather(sample, a, b, what == 3);
        if (what == 1) {
            sample.dealtAnew(latest, ways);
        } else if (what == 2) {
            sample.dealtAnewByRooms(latest);
        } else {
            sample.difference(latest);
        }
        if (what == 4) {
            world.gather(sample, a, b, true);
            sample.difference(first);
            latest.subtract(first);
        }
        return latest.isNone() ? 0 : 1;
    }

    public int sure() {
        return latest.thousandths();
    }

    public long upper() {
        return latest.upper;
    }

    public long lower() {
        return latest.lower;
    }

    public int looks(int what) {
        if (outside(what, 0, 1)) {
            return refuse(NO_SUCH);
        }
        return what == 0 ? countLooks() : findBest(first);
    }

    public int paid() {
        payForLooks(latest);
        return latest.isNone() ? 0 : 1;
    }

    public int mean(int room, int a, int b) {
        if (outside(room, 0, world.rooms - 1) || noTest(a) || noTest(b) || a == b) {
            return NO_MEAN;
        }
        world.gather(sample, a, b, false);
        sample.lookAt(room);
        return sample.ones == 0 ? NO_MEAN : sample.meanOfRoom();
    }

    // ---- films, marks, trials

    public int film(int way, boolean named, int seen) {
        if (outside(way, 0, WAYS - 1)) {
            return refuse(NO_SUCH);
        }
        if (outside(seen, 0, 99)) {
            return refuse(WRONG_NUMBER);
        }
        if (world.films.size >= Films.MOST) {
            return refuse(FULL);
        }
        return world.films.add(way, named, seen);
    }

    public int hair(int way, int what) {
        if (outside(way, 0, WAYS - 1) || outside(what, 0, 1)) {
            return refuse(NO_SUCH);
        }
        world.films.gather(sample, way);
        if (what == 0) {
            sample.difference(latest);
        } else {
            sample.dealtAnew(latest, ways);
        }
        return latest.isNone() ? 0 : 1;
    }

    public int carried() {
        carry(latest);
        return latest.isNone() ? 0 : 1;
    }

    public int enough(int a, int b) {
        if (noTest(a) || noTest(b)) {
            return refuse(NO_SUCH);
        }
        if (a == b) {
            return refuse(WRONG_NUMBER);
        }
        carry(first);
        world.gather(sample, a, b, false);
        sample.difference(second);
        if (first.isNone() || second.isNone()) {
            return NONE;
        }
        return first.against(second) >= 0 ? 1 : 0;
    }

    public int mark(int child, int test, int points) {
        if (noChild(child) || noTest(test)) {
            return refuse(NO_SUCH);
        }
        if (outside(points, 0, MOST_POINTS)) {
            return refuse(WRONG_NUMBER);
        }
        if (world.marks.size >= Marks.MOST) {
            return refuse(FULL);
        }
        return world.marks.add(child, test, points);
    }

    public int same(int test) {
        if (noTest(test)) {
            return refuse(NO_SUCH);
        }
        world.gatherMarked(sample, test);
        sample.difference(latest);
        return latest.isNone() ? 0 : 1;
    }

    public int trial(int weeks, int effect, int size, boolean printed) {
        if (outside(weeks, 0, MOST_WEEKS) || outside(effect, -999, 999) || outside(size, 1, 999)) {
            return refuse(WRONG_NUMBER);
        }
        if (world.trials.count >= Trials.MOST) {
            return refuse(FULL);
        }
        return world.trials.add(weeks, effect, size, printed);
    }

    public int curve(boolean printed) {
        world.trials.slope(latest, printed, NONE);
        return latest.isNone() ? 0 : 1;
    }

    public int edge(boolean printed, boolean most) {
        world.trials.outermost(latest, first, printed, most);
        return latest.isNone() ? 0 : 1;
    }

    // ---- laws, plans

    public int keep(int law) {
        if (outside(law, 0, KEPT_LAWS - 1)) {
            return refuse(NO_SUCH);
        }
        world.kept[law].copy(world.law);
        world.isKept[law] = true;
        return 0;
    }

    public int fits(int law, int a, int b) {
        if (outside(law, 0, KEPT_LAWS - 1) || noTest(a) || noTest(b)) {
            return refuse(NO_SUCH);
        }
        if (a == b) {
            return refuse(WRONG_NUMBER);
        }
        if (!world.isKept[law]) {
            return refuse(NOT_NOW);
        }
        return world.countFitting(world.kept[law], a, b);
    }

    public int likely(int a, int b) {
        if (noTest(a) || noTest(b)) {
            return refuse(NO_SUCH);
        }
        if (a == b) {
            return refuse(WRONG_NUMBER);
        }
        int best = NONE;
        int most = NONE;
        for (int law = 0; law < KEPT_LAWS; law++) {
            int fitting = world.isKept[law] ? world.countFitting(world.kept[law], a, b) : NONE;
            if (fitting > most) {
                most = fitting;
                best = law;
            }
        }
        return best;
    }

    public int needed(int n) {
        if (outside(n, 2, MOST_NEEDED)) {
            return refuse(WRONG_NUMBER);
        }
        for (int many = 2; many <= MOST_ROOMS; many++) {
            if (Sample.choices(many, many / 2) >= n) {
                return many;
            }
        }
        return NONE;
    }

    public int say(int a, int b) {
        if (noTest(a) || noTest(b)) {
            return refuse(NO_SUCH);
        }
        if (a == b) {
            return refuse(WRONG_NUMBER);
        }
        world.gather(sample, a, b, false);
        sample.difference(first);
        if (first.isNone()) {
            return 0;
        }
        if (world.isAnyBad()) {
            return 1;
        }
        world.gather(sample, a, b, true);
        sample.difference(second);
        // An upper number of 0 or below also stands for no CLEAN at all.
        if (first.upper > 0 && second.upper <= 0) {
            return 2;
        }
        if (first.upper <= 0) {
            return 3;
        }
        payForLooks(first);
        return first.isNone() || 20 * first.upper > first.lower ? 4 : 5;
    }

    // ---- rows, images

    public int row(int row, int sort, int n) {
        if (outside(row, 0, ROWS - 1) || outside(sort, 0, 3)) {
            return refuse(NO_SUCH);
        }
        if (outside(n, 0, ROW_LENGTH)) {
            return refuse(WRONG_NUMBER);
        }
        rowSorts[row] = sort;
        rowSizes[row] = n;
        Arrays.fill(rows[row], 0L);
        return 0;
    }

    public long write(int row, int i, long v) {
        if (outside(row, 0, ROWS - 1)) {
            return refuse(NO_SUCH);
        }
        if (rowSizes[row] < 0) {
            return refuse(MISSING_ROW);
        }
        if (outside(i, 0, rowSizes[row] - 1)) {
            return refuse(SHORT_ROW);
        }
        rows[row][i] = cut(v, rowSorts[row]);
        return rows[row][i];
    }

    public int pour(int row, int test) {
        if (outside(row, 0, ROWS - 1) || noTest(test)) {
            return refuse(NO_SUCH);
        }
        if (rowSizes[row] < 0) {
            return refuse(MISSING_ROW);
        }
        if (rowSizes[row] < world.children) {
            return refuse(SHORT_ROW);
        }
        for (int c = 0; c < world.children; c++) {
            if (rows[row][c] < NONE || rows[row][c] > MOST_POINTS) {
                return refuse(WRONG_NUMBER);
            }
        }
        for (int c = 0; c < world.children; c++) {
            world.points[test][c] = (int) rows[row][c];
        }
        return world.children;
    }

    public int image(int i) {
        if (outside(i, 0, IMAGES - 1)) {
            return refuse(NO_SUCH);
        }
        images[i].copy(world);
        imaged[i] = true;
        return 0;
    }

    public int restore(int i) {
        if (outside(i, 0, IMAGES - 1)) {
            return refuse(NO_SUCH);
        }
        if (!imaged[i]) {
            return refuse(NOT_NOW);
        }
        world.copy(images[i]);
        return 0;
    }

    public int status(int what) {
        return outside(what, BY_FAULT, SHORT_ROW) ? NONE : refused[what];
    }

    public int count(int what) {
        switch (what) {
            case 0:
                return world.rooms;
            case 1:
                return world.children;
            case 2:
                return world.years;
            case 3:
                return world.law.lines;
            case 4:
                return world.rules.rules;
            case 5:
                return world.films.size;
            case 6:
                return world.marks.size;
            case 7:
                return world.trials.count;
            case 8:
                return reader.tokens.size;
            case 9:
                return world.namedOnes();
            case 10:
                return world.goneOnes();
            default:
                return outside(what, 20, 19 + TESTS) ? NONE : world.testYears[what - 20];
        }
    }

    private int refuse(int code) {
        if (code >= 0 && code < refused.length) {
            refused[code]++;
        }
        return -code;
    }

    private boolean noChild(int child) {
        return outside(child, 0, world.children - 1);
    }

    private static boolean noTest(int test) {
        return outside(test, 0, TESTS - 1);
    }

    private static boolean outside(int n, int least, int most) {
        return n < least || n > most;
    }

    /** A number of a table, or 0 where the table has no such place. */
    private static int at(int[] table, int i) {
        return i >= 0 && i < table.length ? table[i] : 0;
    }

    private static long cut(long v, int sort) {
        switch (sort) {
            case 0:
                return (byte) v;
            case 1:
                return (short) v;
            case 2:
                return (int) v;
            default:
                return v;
        }
    }

    private int countLooks() {
        int looks = 0;
        for (int a = 0; a < TESTS; a++) {
            for (int b = a + 1; b < TESTS; b++) {
                world.gather(sample, a, b, false);
                if (sample.isSplit()) {
                    looks++;
                }
            }
        }
        return looks;
    }

    /** Leaves the ANEW of the BEST LOOK in a fraction and answers 10 a and b; NONE and 0 over 0 without LOOKS. */
    private int findBest(Fraction least) {
        int best = NONE;
        least.clear();
        for (int a = 0; a < TESTS; a++) {
            for (int b = a + 1; b < TESTS; b++) {
                world.gather(sample, a, b, false);
                sample.dealtAnew(second, ways);
                if (!second.isNone() && (least.isNone() || second.against(least) < 0)) {
                    least.copy(second);
                    best = 10 * a + b;
                }
            }
        }
        return best;
    }

    private void payForLooks(Fraction into) {
        findBest(into);
        if (!into.isNone()) {
            into.become(Math.min(into.upper * countLooks(), into.lower), into.lower);
        }
    }

    private void carry(Fraction into) {
        into.clear();
        for (int way = 0; way < WAYS; way++) {
            world.films.gather(sample, way);
            sample.difference(second);
            if (!second.isNone()) {
                second.become(second.upper * world.law.growsBy(way), second.lower * 100);
                into.add(second);
            }
        }
    }

    /** An exact number by least numbers, the lower above 0; 0 over 0 where there is none. */
    private static final class Fraction {
        long upper;
        long lower;

        boolean isNone() {
            return lower <= 0;
        }

        void clear() {
            upper = 0;
            lower = 0;
        }

        void copy(Fraction other) {
            upper = other.upper;
            lower = other.lower;
        }

        /** A lower number of 0 or below makes it 0 over 0. */
        void become(long newUpper, long newLower) {
            clear();
            if (newLower > 0) {
                long divisor = commonDivisor(Math.abs(newUpper), newLower);
                upper = divisor > 0 ? newUpper / divisor : newUpper;
                lower = divisor > 0 ? newLower / divisor : newLower;
            }
        }

        /** To 0 over 0 the other is added as to nothing. */
        void add(Fraction other) {
            if (isNone()) {
                copy(other);
            } else if (!other.isNone()) {
                become(upper * other.lower + other.upper * lower, lower * other.lower);
            }
        }

        /** 0 over 0 if one of both is. */
        void subtract(Fraction other) {
            if (isNone() || other.isNone()) {
                clear();
            } else {
                become(upper * other.lower - other.upper * lower, lower * other.lower);
            }
        }

        int thousandths() {
            return lower > 0 ? (int) (1000 * upper / lower) : 0;
        }

        /**
         * Below 0, 0 or above 0, as this is less than, the same as or more than the other. Whole parts are
         * compared, then what is left upside down: products of the numbers would not go into a long.
         */
        int against(Fraction other) {
            long a = upper;
            long b = lower;
            long c = other.upper;
            long d = other.lower;
            for (int step = 0; step < 200 && b > 0 && d > 0; step++) {
                long whole = Math.floorDiv(a, b);
                long otherWhole = Math.floorDiv(c, d);
                if (whole != otherWhole) {
                    return whole < otherWhole ? -1 : 1;
                }
                long left = a - whole * b;
                long otherLeft = c - otherWhole * d;
                if (left == 0 || otherLeft == 0) {
                    return Long.compare(left, otherLeft);
                }
                a = d;
                c = b;
                b = otherLeft;
                d = left;
            }
            return 0;
        }

        private static long commonDivisor(long a, long b) {
            for (int step = 0; step < 200 && b != 0; step++) {
                long rest = a % b;
                a = b;
                b = rest;
            }
            return a;
        }
    }

    /** Those looked at together: of each a ROOM, a number and whether it is named. */
    private static final class Sample {
        final int[] room = new int[MOST_CHILDREN];
        final int[] value = new int[MOST_CHILDREN];
        final boolean[] named = new boolean[MOST_CHILDREN];
        int size;

        // Of the ROOM that was looked at last.
        int ones;
        int namedHere;
        int total;
        int least;
        int most;

        final int[] means = new int[MOST_ROOMS];

        void clear() {
            size = 0;
        }

        void add(int itsRoom, int itsValue, boolean isNamed) {
            if (size < room.length) {
                room[size] = itsRoom;
                value[size] = itsValue;
                named[size] = isNamed;
                size++;
            }
        }

        int namedOnes() {
            int many = 0;
            for (int i = 0; i < size; i++) {
                if (named[i]) {
                    many++;
                }
            }
            return many;
        }

        boolean isSplit() {
            int many = namedOnes();
            return many > 0 && many < size;
        }

        /** The mean of named ones less that of the others. */
        void difference(Fraction into) {
            long sum = 0;
            long otherSum = 0;
            for (int i = 0; i < size; i++) {
                if (named[i]) {
                    sum += value[i];
                } else {
                    otherSum += value[i];
                }
            }
            long many = namedOnes();
            long others = size - many;
            into.become(sum * others - otherSum * many, many * others);
        }

        void lookAt(int aRoom) {
            ones = 0;
            namedHere = 0;
            total = 0;
            for (int i = 0; i < size; i++) {
                if (room[i] != aRoom) {
                    continue;
                }
                least = ones == 0 ? value[i] : Math.min(least, value[i]);
                most = ones == 0 ? value[i] : Math.max(most, value[i]);
                ones++;
                total += value[i];
                if (named[i]) {
                    namedHere++;
                }
            }
        }

        int meanOfRoom() {
            return ones > 0 ? 1000 * total / ones : 0;
        }

        /**
         * How often the named ones have together as much or more, by all ways to name as many in each ROOM.
         * Where fewer are not named, those are chosen in place of the named ones: what they fall short of the
         * most grows and sinks as the sum of the named ones does, and fewer need fewer sums.
         */
        void dealtAnew(Fraction into, Ways ways) {
            into.clear();
            if (!isSplit()) {
                return;
            }
            int reached = 0;
            for (int r = 0; r < MOST_ROOMS; r++) {
                lookAt(r);
                reached += worthOfChosen(r);
            }
            ways.begin(reached);
            for (int r = 0; r < MOST_ROOMS; r++) {
                lookAt(r);
                offerRoom(ways, r);
            }
            into.become(ways.reaching(), ways.all());
        }

        private boolean choosesNamed() {
            return 2 * namedHere <= ones;
        }

        private int worth(int i) {
            return choosesNamed() ? value[i] - least : most - value[i];
        }

        private int worthOfChosen(int aRoom) {
            int sum = 0;
            for (int i = 0; i < size; i++) {
                if (room[i] == aRoom && named[i] == choosesNamed()) {
                    sum += worth(i);
                }
            }
            return sum;
        }

        private void offerRoom(Ways ways, int aRoom) {
            int choose = Math.min(namedHere, ones - namedHere);
            if (choose == 0) {
                return;
            }
            ways.open(choose);
            int seen = 0;
            for (int i = 0; i < size; i++) {
                if (room[i] == aRoom) {
                    seen++;
                    ways.offer(worth(i), Math.max(1, choose - (ones - seen)), Math.min(choose, seen));
                }
            }
            ways.close(choose);
        }

        /** How often the MEANS of as many ROOMS are together as much as those of the NAMED ones, or more. */
        void dealtAnewByRooms(Fraction into) {
            into.clear();
            int rooms = 0;
            int namedRooms = 0;
            int reached = 0;
            for (int r = 0; r < MOST_ROOMS; r++) {
                lookAt(r);
                if (ones == 0) {
                    continue;
                }
                int mean = meanOfRoom();
                means[rooms] = mean;
                rooms++;
                if (2 * namedHere > ones) {
                    namedRooms++;
                    reached += mean;
                }
            }
            if (namedRooms > 0 && namedRooms < rooms) {
                into.become(setsReaching(means, rooms, 0, namedRooms, reached), choices(rooms, namedRooms));
            }
        }

        /** How many sets of so many means, none before a place, have together what is still missing, or more. */
        private static int setsReaching(int[] means, int many, int from, int choose, int missing) {
            if (choose == 0) {
                return missing <= 0 ? 1 : 0;
            }
            // The place grows with each step, so no more than 18 of these calls stand open.
            if (many - from < choose || from < 0 || from >= means.length) {
                return 0;
            }
            return setsReaching(means, many, from + 1, choose - 1, missing - means[from])
                    + setsReaching(means, many, from + 1, choose, missing);
        }

        /** In how many ways so many of all can be chosen. */
        static int choices(int all, int choose) {
            int ways = 1;
            for (int i = 1; i <= choose; i++) {
                ways = ways * (all - choose + i) / i;
            }
            return ways;
        }
    }

    /**
     * How many ways of choosing lead to which sum, group by group; a sum above the target counts as the target.
     * Row j has the sums of j chosen of the group that is open, row 0 those of all groups before it.
     */
    private static final class Ways {
        static final int MOST_CHOSEN = 20;
        static final int MOST_SUM = 8000;

        final long[] table = new long[(MOST_CHOSEN + 1) * (MOST_SUM + 1)];
        final int[] reach = new int[MOST_CHOSEN + 1];
        int target;
        int width;

        void begin(int newTarget) {
            target = Math.max(0, Math.min(newTarget, MOST_SUM));
            width = target + 1;
            table[0] = 1;
            reach[0] = 0;
        }

        void open(int choose) {
            int rows = rowsOf(choose);
            Arrays.fill(table, width, (rows + 1) * width, 0L);
            for (int j = 1; j <= rows; j++) {
                reach[j] = NONE;
            }
        }

        private static int rowsOf(int choose) {
            return Math.max(0, Math.min(choose, MOST_CHOSEN));
        }

        /** One more that may be chosen as one of so many; from above, so that it is not chosen twice. */
        void offer(int worth, int least, int most) {
            for (int j = rowsOf(most); j >= Math.max(1, least); j--) {
                spread((j - 1) * width, j * width, reach[j - 1], Math.max(0, worth));
                if (reach[j - 1] >= 0) {
                    reach[j] = Math.max(reach[j], Math.min(target, reach[j - 1] + worth));
                }
            }
        }

        private void spread(int from, int to, int last, int worth) {
            if (from < 0 || to < from || last > target || target >= table.length - to) {
                return;
            }
            int under = Math.min(last + 1, Math.max(0, target - worth));
            for (int sum = 0; sum < under; sum++) {
                table[to + sum + worth] += table[from + sum];
            }
            long beyond = 0;
            for (int sum = under; sum <= last; sum++) {
                beyond += table[from + sum];
            }
            table[to + target] += beyond;
        }

        void close(int choose) {
            int row = rowsOf(choose);
            System.arraycopy(table, row * width, table, 0, width);
            reach[0] = reach[row];
        }

        long reaching() {
            return reach[0] == target ? table[target] : 0;
        }

        long all() {
            long sum = 0;
            for (int i = 0; i <= reach[0]; i++) {
                sum += table[i];
            }
            return sum;
        }
    }

    /** What THE LAW says: each number at the place of its word in Tokens.WORDS, grows behind gives. */
    private static final class Law {
        static final int MOST_LINES = 30;
        static final int GIVES = Tokens.WARMTH;
        static final int GROWS = GIVES + WAYS;

        final int[] numbers = new int[Tokens.ROOF + 1];
        int lines;

        Law() {
            clear();
        }

        private void clear() {
            Arrays.fill(numbers, 0);
            numbers[Tokens.ROOF] = MOST_POINTS;
            lines = 0;
        }

        void copy(Law other) {
            System.arraycopy(other.numbers, 0, numbers, 0, numbers.length);
            lines = other.lines;
        }

        int noise() {
            return numbers[Tokens.NOISE];
        }

        int hold(int word, int weeks, boolean halved) {
            if (word < NAMED || word > HEARD) {
                return 0;
            }
            int unknown = Math.max(0, 100 - numbers[Tokens.KNOWN] * weeks);
            int hold = at(numbers, word - NAMED) * unknown / 100;
            return halved ? hold / 2 : hold;
        }

        int gives(int hold, int way) {
            return hold * at(numbers, GIVES + way) / 10;
        }

        int growsBy(int way) {
            return at(numbers, GROWS + way);
        }

        int growth(int hold, int word) {
            int sum = 0;
            for (int way = 0; way < WAYS; way++) {
                sum += gives(hold, way) * growsBy(way) / 100;
            }
            return word == HEARD ? sum + numbers[Tokens.HEARS] : sum;
        }

        int pointsOf(int gift, int draw, boolean isMarked) {
            int noise = Math.max(0, noise());
            int points = gift + draw % (2 * noise + 1) - noise;
            if (isMarked) {
                points += numbers[Tokens.MARKS];
            }
            points = Math.max(Math.min(points, numbers[Tokens.ROOF]), numbers[Tokens.FLOOR]);
            return Math.max(0, Math.min(MOST_POINTS, points));
        }

        boolean isEnd(int points) {
            return points == numbers[Tokens.FLOOR] || points == numbers[Tokens.ROOF];
        }
    }

    /** THE RULES, each as a row of steps: facts come on a stack of bits, not, and, or take what is on it. */
    private static final class Rules {
        static final int MOST_RULES = 12;

        final int[] steps = new int[Tokens.MOST_BYTES];
        int size;
        int rules;

        void clear() {
            size = 0;
            rules = 0;
        }

        void copy(Rules other) {
            System.arraycopy(other.steps, 0, steps, 0, steps.length);
            size = other.size;
            rules = other.rules;
        }

        void add(int word, int number) {
            if (size < steps.length) {
                steps[size] = word << 8 | number;
                size++;
            }
        }

        boolean isAnyTrue(boolean told, int room, int grade, int weeks, int points) {
            int stack = 0;
            for (int i = 0; i < size && i < steps.length; i++) {
                int word = steps[i] >> 8;
                int number = steps[i] & 255;
                switch (word) {
                    case Tokens.OUT:
                        if ((stack & 1) == 1) {
                            return true;
                        }
                        stack = 0;
                        break;
                    case Tokens.NOT:
                        stack ^= 1;
                        break;
                    case Tokens.AND:
                        stack = stack >>> 2 << 1 | stack & stack >>> 1 & 1;
                        break;
                    case Tokens.OR:
                        stack = stack >>> 2 << 1 | (stack | stack >>> 1) & 1;
                        break;
                    case Tokens.TOLD:
                        stack = push(stack, told);
                        break;
                    case Tokens.ROOM:
                        stack = push(stack, room == number);
                        break;
                    case Tokens.GRADE:
                        stack = push(stack, grade == number);
                        break;
                    case Tokens.KNOWN:
                        stack = push(stack, weeks >= number);
                        break;
                    case Tokens.BELOW:
                        stack = push(stack, points < number);
                        break;
                    default:
                        stack = push(stack, points > number);
                        break;
                }
            }
            return false;
        }

        private static int push(int stack, boolean fact) {
            return stack << 1 | (fact ? 1 : 0);
        }
    }

    /** THE TAPE, and the TOKENS of its first bytes, which are all found before they are looked at in turn. */
    private static final class Tokens {
        static final int MOST_BYTES = 400;

        static final String WORDS = "named true bad marked heard warmth time harder moves gives grows known gift hears marks noise floor roof out if or and not told room grade below above ";
        static final int WARMTH = 5;
        static final int MOVES = 8;
        static final int GIVES = 9;
        static final int GROWS = 10;
        static final int KNOWN = 11;
        static final int GIFT = 12;
        static final int HEARS = 13;
        static final int MARKS = 14;
        static final int NOISE = 15;
        static final int FLOOR = 16;
        static final int ROOF = 17;
        static final int OUT = 18;
        static final int IF = 19;
        static final int OR = 20;
        static final int AND = 21;
        static final int NOT = 22;
        static final int TOLD = 23;
        static final int ROOM = 24;
        static final int GRADE = 25;
        static final int BELOW = 26;
        static final int ABOVE = 27;

        // The kinds of all other TOKENS.
        static final int OTHER_WORD = 40;
        static final int NUMBER = 41;
        static final int END = 42;
        static final int NO_TOKEN = 43;
        static final int SEMICOLON = 44;
        static final int OPEN = 45;
        static final int CLOSE = 46;
        static final int MINUS = 47;

        final byte[] tape = new byte[MOST_BYTES];
        int size;

        // Of each TOKEN its kind (a word's is its number in WORDS), where it begins and, of an N, the number.
        private final int[] kinds = new int[MOST_BYTES];
        private final int[] places = new int[MOST_BYTES];
        private final int[] numbers = new int[MOST_BYTES];
        private int found;
        private int length;

        // Of the TOKEN that is looked at.
        private int now;
        int kind;
        int place;
        int number;

        void append(int four) {
            for (int shift = 24; shift >= 0; shift -= 8) {
                if (size < tape.length) {
                    tape[size] = (byte) (four >> shift);
                    size++;
                }
            }
        }

        void start(int n) {
            length = Math.max(0, Math.min(n, size));
            found = 0;
            int from = 0;
            for (int step = 0; step <= MOST_BYTES && from < length; step++) {
                int to = endOfRun(from);
                if (sign(from) != ' ' && sign(from) != '\n') {
                    keepToken(from, to);
                }
                from = to;
            }
            now = NONE;
            advance();
        }

        void advance() {
            now++;
            boolean isThere = now >= 0 && now < found && now < MOST_BYTES;
            kind = isThere ? kinds[now] : END;
            place = isThere ? places[now] : length;
            number = isThere ? numbers[now] : 0;
        }

        private int sign(int i) {
            return i >= 0 && i < tape.length ? tape[i] & 255 : 0;
        }

        private static boolean isDigit(int sign) {
            return sign >= '0' && sign <= '9';
        }

        private static boolean isLetter(int sign) {
            return sign >= 'a' && sign <= 'z';
        }

        /** Where the letters or digits end that begin at a place; any other sign stands alone. */
        private int endOfRun(int from) {
            int to = from + 1;
            if (isDigit(sign(from))) {
                while (to < length && isDigit(sign(to))) {
                    to++;
                }
            } else if (isLetter(sign(from))) {
                while (to < length && isLetter(sign(to))) {
                    to++;
                }
            }
            return to;
        }

        private void keepToken(int from, int to) {
            if (found >= MOST_BYTES) {
                return;
            }
            places[found] = from;
            numbers[found] = 0;
            if (isLetter(sign(from))) {
                kinds[found] = wordAt(from, to);
            } else if (!isDigit(sign(from))) {
                kinds[found] = signKind(sign(from));
            } else if (to - from > 3) {
                kinds[found] = NO_TOKEN;
            } else {
                kinds[found] = NUMBER;
                numbers[found] = numberAt(from, to);
            }
            found++;
        }

        private static int signKind(int sign) {
            switch (sign) {
                case ';':
                    return SEMICOLON;
                case '(':
                    return OPEN;
                case ')':
                    return CLOSE;
                case '-':
                    return MINUS;
                default:
                    return NO_TOKEN;
            }
        }

        private int numberAt(int from, int to) {
            int sum = 0;
            for (int i = from; i < to; i++) {
                sum = 10 * sum + sign(i) - '0';
            }
            return sum;
        }

        /** The number in WORDS of the word that stands from one place up to another. */
        private int wordAt(int from, int to) {
            int word = 0;
            int i = from;
            boolean same = true;
            for (int w = 0; w < WORDS.length(); w++) {
                char letter = WORDS.charAt(w);
                if (letter == ' ') {
                    if (same && i == to) {
                        return word;
                    }
                    word++;
                    i = from;
                    same = true;
                } else if (same && i < to && sign(i) == letter) {
                    i++;
                } else {
                    same = false;
                }
            }
            return OTHER_WORD;
        }
    }

    /** Reads a text into a law or rules of its own, so that those in force stay with a FAULT. */
    private static final class Reader {
        private static final int NO_TOKEN = 1;
        private static final int MISPLACED = 2;
        private static final int OUT_OF_BOUNDS = 3;
        private static final int TOO_MANY = 4;
        private static final int TOO_DEEP = 5;
        private static final int MOST_OPEN = 8;

        /** The greatest N of the words known to above, at their numbers less that of known. */
        private static final int[] MOST = {100, 50, 50, 50, 20, 200, 200, 0, 0, 0, 0, 0, 0, 17, 6, 200, 200};

        final Tokens tokens = new Tokens();
        final Law law = new Law();
        final Rules rules = new Rules();
        int fault;
        int place = NONE;

        private int taken;

        boolean readLaw(int n) {
            begin(n);
            law.clear();
            for (int line = 0; line <= Law.MOST_LINES; line++) {
                if (tokens.kind == Tokens.END) {
                    return true;
                }
                if (tokens.kind > Tokens.ROOF || tokens.kind >= Tokens.MOVES && tokens.kind <= Tokens.GROWS) {
                    return fails(MISPLACED);
                }
                if (line == Law.MOST_LINES) {
                    return fails(TOO_MANY);
                }
                if (!takesLine() || !takes(Tokens.SEMICOLON)) {
                    return false;
                }
                law.lines++;
            }
            return false;
        }

        boolean readRules(int n) {
            begin(n);
            rules.clear();
            for (int rule = 0; rule <= Rules.MOST_RULES; rule++) {
                if (tokens.kind == Tokens.END) {
                    return true;
                }
                if (tokens.kind != Tokens.OUT) {
                    return fails(MISPLACED);
                }
                if (rule == Rules.MOST_RULES) {
                    return fails(TOO_MANY);
                }
                if (!takes(Tokens.OUT) || !takes(Tokens.IF) || !takesTest(0) || !takes(Tokens.SEMICOLON)) {
                    return false;
                }
                rules.add(Tokens.OUT, 0);
                rules.rules++;
            }
            return false;
        }

        private void begin(int n) {
            fault = 0;
            place = NONE;
            tokens.start(n);
        }

        /** Where no TOKEN begins, that is the FAULT, whatever else is wrong there. */
        private boolean fails(int kind) {
            fault = tokens.kind == Tokens.NO_TOKEN ? NO_TOKEN : kind;
            place = tokens.place;
            return false;
        }

        private boolean takes(int kind) {
            if (tokens.kind != kind) {
                return fails(MISPLACED);
            }
            tokens.advance();
            return true;
        }

        private boolean takesNumber(int least, int most) {
            if (tokens.kind != Tokens.NUMBER) {
                return fails(MISPLACED);
            }
            if (outside(tokens.number, least, most)) {
                return fails(OUT_OF_BOUNDS);
            }
            taken = tokens.number;
            tokens.advance();
            return true;
        }

        private boolean takesLine() {
            int word = tokens.kind;
            tokens.advance();
            if (word < Tokens.WARMTH) {
                return takesMoves(word);
            }
            if (word < Tokens.MOVES) {
                return takesWay(word - Tokens.WARMTH);
            }
            return takesNumber(0, at(MOST, word - Tokens.KNOWN)) && sets(word, taken);
        }

        private boolean takesMoves(int word) {
            if (!takes(Tokens.MOVES)) {
                return false;
            }
            boolean isBelow = tokens.kind == Tokens.MINUS;
            if (isBelow) {
                tokens.advance();
            }
            return takesNumber(0, 99) && sets(word, isBelow ? -taken : taken);
        }

        private boolean takesWay(int way) {
            return takes(Tokens.GIVES) && takesNumber(0, 99) && sets(Law.GIVES + way, taken)
                    && takes(Tokens.GROWS) && takesNumber(0, 99) && sets(Law.GROWS + way, taken);
        }

        private boolean sets(int which, int number) {
            if (which >= 0 && which < law.numbers.length) {
                law.numbers[which] = number;
            }
            return true;
        }

        /** Depth: how many not and ( are open around it. */
        private boolean takesTest(int depth) {
            boolean right = takesPart(depth);
            for (int n = 0; n < Tokens.MOST_BYTES && right && tokens.kind == Tokens.OR; n++) {
                tokens.advance();
                right = takesPart(depth);
                rules.add(Tokens.OR, 0);
            }
            return right;
        }

        private boolean takesPart(int depth) {
            boolean right = takesFact(depth);
            for (int n = 0; n < Tokens.MOST_BYTES && right && tokens.kind == Tokens.AND; n++) {
                tokens.advance();
                right = takesFact(depth);
                rules.add(Tokens.AND, 0);
            }
            return right;
        }

        private boolean takesFact(int depth) {
            int kind = tokens.kind;
            if (kind == Tokens.NOT || kind == Tokens.OPEN) {
                if (depth >= MOST_OPEN) {
                    return fails(TOO_DEEP);
                }
                tokens.advance();
                if (kind == Tokens.OPEN) {
                    return takesTest(depth + 1) && takes(Tokens.CLOSE);
                }
                boolean right = takesFact(depth + 1);
                rules.add(Tokens.NOT, 0);
                return right;
            }
            if (kind != Tokens.KNOWN && outside(kind, Tokens.TOLD, Tokens.ABOVE)) {
                return fails(MISPLACED);
            }
            tokens.advance();
            int least = kind == Tokens.GRADE ? 1 : 0;
            int most = kind == Tokens.KNOWN ? MOST_WEEKS : at(MOST, kind - Tokens.KNOWN);
            if (kind != Tokens.TOLD && !takesNumber(least, most)) {
                return false;
            }
            rules.add(kind, kind == Tokens.TOLD ? 0 : taken);
            return true;
        }
    }

    /** What was seen on FILMS. */
    private static final class Films {
        static final int MOST = 24;

        final int[] way = new int[MOST];
        final boolean[] named = new boolean[MOST];
        final int[] seen = new int[MOST];
        int size;

        int add(int itsWay, boolean isNamed, int howMuch) {
            if (size < MOST) {
                way[size] = itsWay;
                named[size] = isNamed;
                seen[size] = howMuch;
                size++;
            }
            return size;
        }

        void copy(Films other) {
            size = other.size;
            System.arraycopy(other.way, 0, way, 0, MOST);
            System.arraycopy(other.named, 0, named, 0, MOST);
            System.arraycopy(other.seen, 0, seen, 0, MOST);
        }

        /** All FILMS of a WAY as one ROOM. */
        void gather(Sample into, int ofWay) {
            into.clear();
            for (int i = 0; i < size; i++) {
                if (way[i] == ofWay) {
                    into.add(0, seen[i], named[i]);
                }
            }
        }
    }

    /** POINTS by another hand. */
    private static final class Marks {
        static final int MOST = 40;

        final int[] child = new int[MOST];
        final int[] test = new int[MOST];
        final int[] points = new int[MOST];
        int size;

        int add(int itsChild, int itsTest, int itsPoints) {
            if (size < MOST) {
                child[size] = itsChild;
                test[size] = itsTest;
                points[size] = itsPoints;
                size++;
            }
            return size;
        }

        void copy(Marks other) {
            size = other.size;
            System.arraycopy(other.child, 0, child, 0, MOST);
            System.arraycopy(other.test, 0, test, 0, MOST);
            System.arraycopy(other.points, 0, points, 0, MOST);
        }

        /** The latest of a CHILD in a TEST, or NONE. */
        int latestOf(int aChild, int aTest) {
            for (int i = size - 1; i >= 0; i--) {
                if (child[i] == aChild && test[i] == aTest) {
                    return points[i];
                }
            }
            return NONE;
        }
    }

    /** TRIALS by others. */
    private static final class Trials {
        static final int MOST = 20;

        final int[] weeks = new int[MOST];
        final int[] effects = new int[MOST];
        final int[] sizes = new int[MOST];
        final boolean[] isPrinted = new boolean[MOST];
        int count;

        int add(int itsWeeks, int itsEffect, int itsSize, boolean printed) {
            if (count < MOST) {
                weeks[count] = itsWeeks;
                effects[count] = itsEffect;
                sizes[count] = itsSize;
                isPrinted[count] = printed;
                count++;
            }
            return count;
        }

        void copy(Trials other) {
            count = other.count;
            System.arraycopy(other.weeks, 0, weeks, 0, MOST);
            System.arraycopy(other.effects, 0, effects, 0, MOST);
            System.arraycopy(other.sizes, 0, sizes, 0, MOST);
            System.arraycopy(other.isPrinted, 0, isPrinted, 0, MOST);
        }

        /** The CURVE by all TRIALS or the printed ones, but for one (NONE: for none). */
        void slope(Fraction into, boolean printed, int without) {
            long all = 0;
            long byWeeks = 0;
            long byEffects = 0;
            long byBoth = 0;
            long bySquares = 0;
            for (int i = 0; i < count; i++) {
                if (i == without || printed && !isPrinted[i]) {
                    continue;
                }
                long size = sizes[i];
                all += size;
                byWeeks += size * weeks[i];
                byEffects += size * effects[i];
                byBoth += size * weeks[i] * effects[i];
                bySquares += size * weeks[i] * weeks[i];
            }
            into.become(all * byBoth - byWeeks * byEffects, all * bySquares - byWeeks * byWeeks);
        }

        /** The greatest or the least CURVE with one left out; a second fraction to work with. */
        void outermost(Fraction into, Fraction one, boolean printed, boolean greatest) {
            into.clear();
            for (int i = 0; i < count; i++) {
                if (printed && !isPrinted[i]) {
                    continue;
                }
                slope(one, printed, i);
                if (one.isNone()) {
                    continue;
                }
                int order = into.isNone() ? 0 : one.against(into);
                if (into.isNone() || (greatest ? order > 0 : order < 0)) {
                    into.copy(one);
                }
            }
        }
    }

    /** All that an IMAGE holds. */
    private static final class World {
        final int[] weeks = new int[MOST_ROOMS];
        final boolean[] forgets = new boolean[MOST_ROOMS];
        int rooms;

        final int[] room = new int[MOST_CHILDREN];
        final int[] grade = new int[MOST_CHILDREN];
        final int[] gift = new int[MOST_CHILDREN];
        final int[] word = new int[MOST_CHILDREN];
        final boolean[] gone = new boolean[MOST_CHILDREN];
        int children;

        int years;
        final int[][] points = new int[TESTS][MOST_CHILDREN];
        final int[] testYears = new int[TESTS];

        final Law law = new Law();
        final Law[] kept = new Law[KEPT_LAWS];
        final boolean[] isKept = new boolean[KEPT_LAWS];
        final Rules rules = new Rules();
        final Films films = new Films();
        final Marks marks = new Marks();
        final Trials trials = new Trials();

        World() {
            for (int i = 0; i < KEPT_LAWS; i++) {
                kept[i] = new Law();
            }
            for (int t = 0; t < TESTS; t++) {
                Arrays.fill(points[t], NONE);
            }
        }

        void copy(World other) {
            System.arraycopy(other.weeks, 0, weeks, 0, MOST_ROOMS);
            System.arraycopy(other.forgets, 0, forgets, 0, MOST_ROOMS);
            rooms = other.rooms;
            System.arraycopy(other.room, 0, room, 0, MOST_CHILDREN);
            System.arraycopy(other.grade, 0, grade, 0, MOST_CHILDREN);
            System.arraycopy(other.gift, 0, gift, 0, MOST_CHILDREN);
            System.arraycopy(other.word, 0, word, 0, MOST_CHILDREN);
            System.arraycopy(other.gone, 0, gone, 0, MOST_CHILDREN);
            children = other.children;
            years = other.years;
            for (int t = 0; t < TESTS; t++) {
                System.arraycopy(other.points[t], 0, points[t], 0, MOST_CHILDREN);
                testYears[t] = other.testYears[t];
            }
            law.copy(other.law);
            for (int i = 0; i < KEPT_LAWS; i++) {
                kept[i].copy(other.kept[i]);
                isKept[i] = other.isKept[i];
            }
            rules.copy(other.rules);
            films.copy(other.films);
            marks.copy(other.marks);
            trials.copy(other.trials);
        }

        int addRoom(int itsWeeks, boolean itForgets) {
            if (rooms >= MOST_ROOMS) {
                return NONE;
            }
            weeks[rooms] = itsWeeks;
            forgets[rooms] = itForgets;
            rooms++;
            return rooms - 1;
        }

        int addChild(int itsRoom, int itsGrade, int itsGift) {
            if (children >= MOST_CHILDREN) {
                return NONE;
            }
            room[children] = itsRoom;
            grade[children] = itsGrade;
            gift[children] = itsGift;
            children++;
            return children - 1;
        }

        int weeksOf(int child) {
            return at(weeks, at(room, child));
        }

        private boolean forgetsOf(int child) {
            int itsRoom = at(room, child);
            return itsRoom >= 0 && itsRoom < forgets.length && forgets[itsRoom];
        }

        int holdOf(Law aLaw, int child, int atYears) {
            return aLaw.hold(at(word, child), weeksOf(child), atYears >= 1 && forgetsOf(child));
        }

        int growthOf(Law aLaw, int child, int atYears) {
            return aLaw.growth(holdOf(aLaw, child, atYears), at(word, child));
        }

        int passYear() {
            for (int c = 0; c < children; c++) {
                if (!gone[c]) {
                    int gifted = gift[c] + law.numbers[Tokens.GIFT] + growthOf(law, c, years);
                    gift[c] = Math.max(0, Math.min(400, gifted));
                }
            }
            years++;
            return years;
        }

        private static int draw(int x) {
            return 1103515245 * x + 12345;
        }

        int giveTest(int test, int seed, boolean knew) {
            int x = seed;
            int many = 0;
            for (int c = 0; c < children; c++) {
                points[test][c] = NONE;
                if (!gone[c]) {
                    x = draw(x);
                    points[test][c] = law.pointsOf(gift[c], x >>> 16, knew && word[c] == MARKED);
                    many++;
                }
            }
            testYears[test] = years;
            return many;
        }

        private boolean isDealt(int child, int toRoom) {
            return room[child] == toRoom && !gone[child] && word[child] <= NAMED;
        }

        private int dealtOnes(int toRoom) {
            int many = 0;
            for (int c = 0; c < children; c++) {
                if (isDealt(c, toRoom)) {
                    many++;
                }
            }
            return many;
        }

        void dealByChildren(int many, int seed) {
            int x = seed;
            for (int r = 0; r < rooms; r++) {
                int left = dealtOnes(r);
                int toName = many;
                for (int c = 0; c < children; c++) {
                    if (left > 0 && isDealt(c, r)) {
                        x = draw(x);
                        boolean isNamed = (x >>> 16) % left < toName;
                        word[c] = isNamed ? NAMED : 0;
                        toName = isNamed ? toName - 1 : toName;
                        left--;
                    }
                }
            }
        }

        void dealByRooms(int many, int seed) {
            int x = seed;
            int toName = many;
            for (int r = 0; r < rooms; r++) {
                x = draw(x);
                boolean isNamed = (x >>> 16) % (rooms - r) < toName;
                toName = isNamed ? toName - 1 : toName;
                for (int c = 0; c < children; c++) {
                    if (isDealt(c, r)) {
                        word[c] = isNamed ? NAMED : 0;
                    }
                }
            }
        }

        int namedOnes() {
            int many = 0;
            for (int c = 0; c < children; c++) {
                if (word[c] == NAMED) {
                    many++;
                }
            }
            return many;
        }

        int goneOnes() {
            int many = 0;
            for (int c = 0; c < children; c++) {
                if (gone[c]) {
                    many++;
                }
            }
            return many;
        }

        boolean isAnyBad() {
            for (int c = 0; c < children; c++) {
                if (word[c] == BAD) {
                    return true;
                }
            }
            return false;
        }

        boolean isRead(int child, int a, int b) {
            int before = points[a][child];
            if (before < 0 || points[b][child] < 0) {
                return false;
            }
            return !rules.isAnyTrue(word[child] > NAMED, room[child], grade[child], weeksOf(child), before);
        }

        /** The READ ones with what they GREW; clean: without ENDS. */
        void gather(Sample into, int a, int b, boolean clean) {
            into.clear();
            for (int c = 0; c < children; c++) {
                boolean isEnd = law.isEnd(points[a][c]) || law.isEnd(points[b][c]);
                if (isRead(c, a, b) && !(clean && isEnd)) {
                    into.add(room[c], points[b][c] - points[a][c], word[c] == NAMED);
                }
            }
        }

        /** CHILDREN with POINTS and a MARK in a TEST, with what the POINTS are more. */
        void gatherMarked(Sample into, int test) {
            into.clear();
            for (int c = 0; c < children; c++) {
                int marked = marks.latestOf(c, test);
                if (points[test][c] >= 0 && marked >= 0) {
                    into.add(room[c], points[test][c] - marked, word[c] == NAMED);
                }
            }
        }

        private int foretold(Law aLaw, int child, int a, int b) {
            int sum = 0;
            for (int y = testYears[a]; y < testYears[b]; y++) {
                sum += aLaw.numbers[Tokens.GIFT] + growthOf(aLaw, child, y);
            }
            return sum;
        }

        int countFitting(Law aLaw, int a, int b) {
            int many = 0;
            for (int c = 0; c < children; c++) {
                if (isRead(c, a, b)) {
                    int off = points[b][c] - points[a][c] - foretold(aLaw, c, a, b);
                    if (Math.abs(off) <= 2 * aLaw.noise()) {
                        many++;
                    }
                }
            }
            return many;
        }
    }
}
