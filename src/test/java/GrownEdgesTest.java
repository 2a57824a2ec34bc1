/** Who is READ at the edges of each FACT, ENDS, ways of ANEW counted one by one, the LOOKS and the BEST of them. */
public final class GrownEdgesTest {
    private static final Due due = new Due();

    public static void main(String[] args) {
        knownWeeks();
        belowAndAbove();
        told();
        twelveRules();
        factsTogether();
        eachFactBesideEachOther();
        pointsInBoth();
        ends();
        endsOfEachKind();
        cleanAndMade();
        anewOneByOne();
        anewInTwoRooms();
        anewInEachRoom();
        anewOfTheGreatestSum();
        namedRooms();
        roomByRoomOneByOne();
        roomsWithoutReadOnes();
        endsCountInAllButClean();
        best();
        bestOfTies();
        bestOfGreatNumbers();
        fifteenLooks();
        paid();
        due.end();
    }

    private static BloomRooms children(int many) {
        BloomRooms x = new BloomRooms();
        x.room(0, false);
        for (int c = 0; c < many; c++) {
            x.child(0, 1, 0);
        }
        return x;
    }

    private static void tell(BloomRooms x, int child, int a, int before, int b, int after) {
        x.tell(child, a, before);
        x.tell(child, b, after);
    }

    /** WEEKS are so many or more. */
    private static void knownWeeks() {
        for (int weeks = 0; weeks <= 20; weeks++) {
            BloomRooms x = new BloomRooms();
            x.room(weeks, false);
            x.child(0, 1, 0);
            tell(x, 0, 0, 50, 1, 60);
            for (int known = 0; known <= 20; known++) {
                Due.say(x, 1, "out if known " + known + ";");
                due.is(weeks + " weeks, known " + known, x.read(0, 1, 0), weeks >= known ? 0 : 1);
            }
        }
    }

    /** Less and more than so many, in the first of both TESTS. */
    private static void belowAndAbove() {
        int[] numbers = {0, 1, 2, 49, 50, 51, 100, 198, 199, 200};
        for (int points : numbers) {
            BloomRooms x = children(1);
            tell(x, 0, 3, points, 2, 100);
            for (int n : numbers) {
                Due.say(x, 1, "out if below " + n + ";");
                due.is(points + " below " + n, x.read(3, 2, 0), points < n ? 0 : 1);
                due.is("100 below " + n, x.read(2, 3, 0), 100 < n ? 0 : 1);
                Due.say(x, 1, "out if above " + n + ";");
                due.is(points + " above " + n, x.read(3, 2, 0), points > n ? 0 : 1);
                due.is("100 above " + n, x.read(2, 3, 0), 100 > n ? 0 : 1);
            }
        }
    }

    private static void told() {
        for (int word = 0; word <= 5; word++) {
            BloomRooms x = children(1);
            tell(x, 0, 0, 50, 1, 60);
            x.word(0, word);
            Due.say(x, 1, "out if told;");
            due.is("told by word " + word, x.read(0, 1, 0), word > 1 ? 0 : 1);
            Due.say(x, 1, "out if not told;");
            due.is("not told by word " + word, x.read(0, 1, 0), word > 1 ? 1 : 0);
            Due.say(x, 1, "");
            due.is("named by word " + word, x.read(0, 1, 1), word == 1 ? 1 : 0);
        }
    }

    /** By any one of twelve RULES a CHILD is out. */
    private static void twelveRules() {
        for (int which = 0; which < 12; which++) {
            BloomRooms x = children(1);
            tell(x, 0, 0, 50, 1, 60);
            StringBuilder rules = new StringBuilder();
            for (int i = 0; i < 12; i++) {
                rules.append(i == which ? "out if room 0;" : "out if room 1;");
            }
            due.is("rules", Due.say(x, 1, rules.toString()), 12);
            due.is("out by rule " + which, x.read(0, 1, 0), 0);
            Due.say(x, 1, rules.toString().replace("room 0", "room 2"));
            due.is("out by none", x.read(0, 1, 0), 1);
        }
    }

    /** T, R and G stand for told, room 1, grade 2: a CHILD for each of the eight ways in which they hold. */
    private static void factsTogether() {
        together("T", (t, r, g) -> t);
        together("not T", (t, r, g) -> !t);
        together("not not T", (t, r, g) -> t);
        together("T and R", (t, r, g) -> t && r);
        together("T or R", (t, r, g) -> t || r);
        together("not T and R", (t, r, g) -> !t && r);
        together("not T or R", (t, r, g) -> !t || r);
        together("not (T and R)", (t, r, g) -> !(t && r));
        together("not (T or R)", (t, r, g) -> !(t || r));
        together("T or R and G", (t, r, g) -> t || r && g);
        together("T and R or G", (t, r, g) -> t && r || g);
        together("(T or R) and G", (t, r, g) -> (t || r) && g);
        together("T and (R or G)", (t, r, g) -> t && (r || g));
        together("T or (R and G)", (t, r, g) -> t || r && g);
        together("T or (R or G)", (t, r, g) -> t || r || g);
        together("T and (R and G)", (t, r, g) -> t && r && g);
        together("T and not (R or G)", (t, r, g) -> t && !(r || g));
        together("T or not (R and G)", (t, r, g) -> t || !(r && g));
        together("not T and (R or not G)", (t, r, g) -> !t && (r || !g));
        together("not (T and (R or G))", (t, r, g) -> !(t && (r || g)));
        together("(T or R) and (R or G)", (t, r, g) -> (t || r) && (r || g));
        together("(T or R) and (R or G) and (T or G)", (t, r, g) -> (t || r) && (r || g) && (t || g));
        together("T and R or R and G or T and G", (t, r, g) -> t && r || r && g || t && g);
        together("T and (R or (G and not T)) or not R", (t, r, g) -> t && (r || g && !t) || !r);
        together("T or (R and (G or (not T and (R or G))))", (t, r, g) -> t || r && (g || !t && (r || g)));
        together("G and (R and (T or (R and (G and T))))", (t, r, g) -> g && r && t);
        together("not (not T or not (R and not G))", (t, r, g) -> t && r && !g);
        together("T and R and G or not T and not R and not G", (t, r, g) -> t && r && g || !t && !r && !g);
    }

    private interface Three {
        boolean holds(boolean told, boolean room, boolean grade);
    }

    private static void together(String test, Three due3) {
        BloomRooms x = children(0);
        x.room(0, false);
        Due.say(x, 1, "out if " + test.replace("T", "told").replace("R", "room 1").replace("G", "grade 2") + ";");
        due.is("rules of " + test, x.count(4), 1);
        for (int c = 0; c < 8; c++) {
            boolean told = (c & 1) == 1;
            boolean room = (c & 2) == 2;
            boolean grade = (c & 4) == 4;
            x.child(room ? 1 : 0, grade ? 2 : 3, 0);
            x.word(c, told ? 5 : 1);
            tell(x, c, 0, 50, 1, 60);
            due.is(test + " of " + told + " " + room + " " + grade, x.grew(c, 0, 1), due3.holds(told, room, grade)
                    ? -1000 : 10);
        }
    }

    private static final String[] FACTS = {"told", "room 1", "grade 2", "known 6", "below 100", "above 120"};

    /** Each FACT before and behind each, by and, by or, with and without not, in ( ) too. */
    private static void eachFactBesideEachOther() {
        for (int i = 0; i < FACTS.length; i++) {
            for (int k = 0; k < FACTS.length; k++) {
                int weeks = k % 2 == 0 ? 3 : 6;
                BloomRooms x = ofAllKinds(weeks);
                for (int bits = 0; bits < 8; bits++) {
                    beside(x, weeks, i, k, bits);
                }
            }
        }
    }

    private static void beside(BloomRooms x, int weeks, int i, int k, int bits) {
        boolean notFirst = (bits & 1) == 1;
        boolean notSecond = (bits & 2) == 2;
        boolean both = (bits & 4) == 4;
        String test = (notFirst ? "not " : "") + FACTS[i] + (both ? " and " : " or ") + (notSecond ? "not(" : "(")
                + FACTS[k] + " and " + FACTS[i] + " or " + FACTS[k] + ")";
        Due.say(x, 1, "out if " + test + ";");
        int many = 0;
        for (int c = 0; c < 36; c++) {
            boolean first = holds(c, weeks, i) != notFirst;
            boolean second = holds(c, weeks, k) != notSecond;
            boolean out = both ? first && second : first || second;
            many += out ? 0 : 1;
            if (c % 7 == k) {
                due.is(test + " of child " + c, x.grew(c, 0, 1), out ? -1000 : 10 - 20 * (c / 12));
            }
        }
        due.is("read but for " + test, x.read(0, 1, 0), many);
    }

    private static boolean holds(int c, int weeks, int fact) {
        int room = c / 2 % 3;
        boolean[] all = {c % 2 == 1, room == 1, c / 6 % 2 == 1, room == 2 || room == 1 && weeks == 6, c / 12 == 0,
            c / 12 == 2};
        return all[fact];
    }

    /** 36 CHILDREN: told or not, of three ROOMS, of two GRADES, with three POINTS. */
    private static BloomRooms ofAllKinds(int weeks) {
        BloomRooms x = new BloomRooms();
        x.room(3, false);
        x.room(weeks, false);
        x.room(6, false);
        for (int c = 0; c < 36; c++) {
            x.child(c / 2 % 3, 1 + c / 6 % 2, 0);
            x.word(c, c % 2 == 1 ? 2 + c % 4 : 0);
            tell(x, c, 0, 90 + 20 * (c / 12), 1, 100);
        }
        return x;
    }

    private static void pointsInBoth() {
        for (int before = -1; before <= 1; before++) {
            for (int after = -1; after <= 1; after++) {
                BloomRooms x = children(2);
                tell(x, 1, 0, before, 1, after);
                boolean read = before >= 0 && after >= 0;
                due.is("read", x.read(0, 1, 0), read ? 1 : 0);
                due.is("grew", x.grew(1, 0, 1), read ? after - before : -1000);
                due.is("mean", x.mean(0, 0, 1), read ? 1000 * (after - before) : -1000000);
            }
        }
    }

    /** POINTS that are floor or roof in a or b; each CHILD counts once. */
    private static void ends() {
        int[][] points = {{50, 60}, {20, 60}, {50, 20}, {80, 60}, {50, 80}, {20, 80}, {80, 20}, {20, 20}, {21, 79},
            {19, 81}, {0, 200}};
        int[] isEnd = {0, 1, 1, 1, 1, 1, 1, 1, 0, 0, 0};
        int many = 0;
        BloomRooms x = children(points.length);
        Due.say(x, 0, "floor 20;roof 80;");
        for (int c = 0; c < points.length; c++) {
            tell(x, c, 0, points[c][0], 1, points[c][1]);
            many += isEnd[c];
            due.is("ends", x.read(0, 1, 2), many);
            due.is("ends the other way", x.read(1, 0, 2), many);
            due.is("read", x.read(0, 1, 0), c + 1);
        }
        Due.say(x, 1, "out if below 21;");
        due.is("ends of read ones alone", x.read(0, 1, 2), 4);
        due.is("read", x.read(0, 1, 0), 6);
        Due.say(x, 0, "");
        Due.say(x, 1, "");
        due.is("0 and 200", x.read(0, 1, 2), 1);
    }

    private static void endsOfEachKind() {
        for (int floor : new int[] {0, 1, 100, 199, 200}) {
            for (int points : new int[] {0, 1, 99, 100, 101, 199, 200}) {
                BloomRooms x = children(1);
                Due.say(x, 0, "floor " + floor + ";roof 150;");
                tell(x, 0, 0, points, 1, 50);
                due.is(points + " by floor " + floor, x.read(0, 1, 2), points == floor ? 1 : 0);
                Due.say(x, 0, "floor 149;roof " + floor + ";");
                due.is(points + " by roof " + floor, x.read(0, 1, 2), points == floor ? 1 : 0);
                due.is(points + " the other way", x.read(1, 0, 2), points == floor ? 1 : 0);
            }
        }
    }

    private static void cleanAndMade() {
        BloomRooms x = children(4);
        x.word(0, 1);
        x.word(1, 1);
        tell(x, 0, 0, 190, 1, 200);
        tell(x, 1, 0, 100, 1, 104);
        tell(x, 2, 0, 100, 1, 101);
        tell(x, 3, 0, 0, 1, 9);
        due.is("effect", x.effect(0, 1, 0), 1);
        due.fraction("7 less 5", x, 2, 1);
        due.is("clean", x.effect(0, 1, 3), 1);
        due.fraction("4 less 1", x, 3, 1);
        due.is("made", x.effect(0, 1, 4), 1);
        due.fraction("2 less 3", x, -1, 1);
        x.tell(3, 0, 1);
        x.effect(0, 1, 4);
        due.fraction("7 less 9 by 2 less 4 less 9 by 2", x, 3, 1);
        x.tell(2, 1, 200);
        due.is("clean by two", x.effect(0, 1, 3), 1);
        due.fraction("4 less 8", x, -4, 1);
        x.tell(3, 1, 0);
        due.is("no clean without others", x.effect(0, 1, 3), 0);
        due.fraction("no clean without others", x, 0, 0);
        due.is("nothing made then", x.effect(0, 1, 4), 0);
        due.is("an effect", x.effect(0, 1, 0), 1);
        x.tell(3, 1, 10);
        x.tell(1, 0, 200);
        due.is("no clean without named ones", x.effect(0, 1, 3), 0);
        due.is("nothing made then", x.effect(0, 1, 4), 0);
        x.word(0, 0);
        x.word(1, 0);
        due.is("no effect", x.effect(0, 1, 0), 0);
        due.is("nothing made", x.effect(0, 1, 4), 0);
        due.fraction("nothing made", x, 0, 0);
        for (int c = 0; c < 4; c++) {
            x.word(c, 1);
        }
        due.is("no effect without others", x.effect(0, 1, 0), 0);
        due.is("nothing made", x.effect(0, 1, 4), 0);
    }

    /** Of all sets of as many ones as the bits of named, how many come up to what those of named have together. */
    private static int[] ways(int[] grew, int named) {
        int all = 0;
        int asMuch = 0;
        for (int set = 0; set < 1 << grew.length; set++) {
            int more = 0;
            for (int i = 0; i < grew.length; i++) {
                more += ((set >> i & 1) - (named >> i & 1)) * grew[i];
            }
            if (Integer.bitCount(set) == Integer.bitCount(named)) {
                all++;
                asMuch += more >= 0 ? 1 : 0;
            }
        }
        return new int[] {asMuch, all};
    }

    private static void isBy(String call, BloomRooms x, int upper, int lower) {
        due.is(call + " above 0", x.lower() > 0 ? 1 : 0, 1);
        due.is(call, x.upper() * lower, x.lower() * upper);
        for (int n = 2; n <= lower; n++) {
            if (x.upper() % n == 0 && x.lower() % n == 0) {
                due.is(call + " both by", n, 1);
            }
        }
    }

    private static void anewOneByOne() {
        for (int n = 0; n < 243; n++) {
            int[] grew = {n % 3, n / 3 % 3 * 5, n / 9 % 3 - 1, n / 27 % 3, -(n / 81)};
            for (int named = n % 7; named < 32; named += 5) {
                BloomRooms x = children(5);
                for (int c = 0; c < 5; c++) {
                    tell(x, c, 0, 100, 1, 100 + grew[c]);
                    x.word(c, named >> c & 1);
                }
                int[] ways = ways(grew, named);
                boolean split = named > 0 && named < 31;
                due.is("anew " + n + " " + named, x.effect(0, 1, 1), split ? 1 : 0);
                if (split) {
                    isBy("anew " + n + " " + named, x, ways[0], ways[1]);
                }
            }
        }
    }

    private static void anewInTwoRooms() {
        for (int n = 0; n < 64; n++) {
            int[] grew = {3, 1, 2, n % 4, n / 4 % 4, 2 * (n / 16)};
            for (int named = 1; named < 63; named += 3) {
                BloomRooms x = new BloomRooms();
                x.room(0, false);
                x.room(0, false);
                for (int c = 0; c < 6; c++) {
                    x.child(c / 3, 1, 0);
                    tell(x, c, 0, 100, 1, 100 + grew[c]);
                    x.word(c, named >> c & 1);
                }
                int[] ways = waysInTwoRooms(grew, 3, named);
                due.is("anew", x.effect(0, 1, 1), 1);
                isBy("anew in two rooms " + n + " " + named, x, ways[0], ways[1]);
            }
        }
    }

    /** Whatever the number of the ROOM: five CHILDREN in one, four in another. */
    private static void anewInEachRoom() {
        for (int room = 0; room < 18; room++) {
            int other = (room + 7) % 18;
            for (int named = 1; named < 511; named += 17) {
                BloomRooms x = new BloomRooms();
                for (int r = 0; r < 18; r++) {
                    x.room(0, false);
                }
                int[] grew = {3, 1, 2, 0, 7, 4, room % 5, 6, 5};
                for (int c = 0; c < 9; c++) {
                    x.child(c < 5 ? room : other, 1, 0);
                    tell(x, c, 0, 100, 1, 100 + grew[c]);
                    x.word(c, named >> c & 1);
                }
                int[] ways = waysInTwoRooms(grew, 5, named);
                due.is("anew", x.effect(0, 1, 1), 1);
                isBy("anew in rooms " + room + " and " + other + " of " + named, x, ways[0], ways[1]);
            }
        }
    }

    /** As ways; the first ones are in one ROOM, the others in another. */
    private static int[] waysInTwoRooms(int[] grew, int first, int named) {
        int all = 0;
        int asMuch = 0;
        int low = (1 << first) - 1;
        for (int set = 0; set < 1 << grew.length; set++) {
            int more = 0;
            for (int i = 0; i < grew.length; i++) {
                more += ((set >> i & 1) - (named >> i & 1)) * grew[i];
            }
            if (Integer.bitCount(set & low) == Integer.bitCount(named & low)
                    && Integer.bitCount(set & ~low) == Integer.bitCount(named & ~low)) {
                all++;
                asMuch += more >= 0 ? 1 : 0;
            }
        }
        return new int[] {asMuch, all};
    }

    /** Twenty that grew 200, one that grew 199, others that fell by 200: one way alone, the others one less. */
    private static void anewOfTheGreatestSum() {
        BloomRooms x = children(40);
        for (int c = 0; c < 40; c++) {
            tell(x, c, 0, c <= 20 ? 0 : 200, 1, c < 20 ? 200 : c == 20 ? 199 : 0);
            x.word(c, c < 20 ? 1 : 0);
        }
        due.is("anew", x.effect(0, 1, 1), 1);
        due.fraction("anew", x, 1, 137846528820L);
        x.word(0, 0);
        x.word(20, 1);
        due.is("anew", x.effect(0, 1, 1), 1);
        due.fraction("one less: 1 and 20 ways", x, 1, 137846528820L / 21);
        due.is("by the others, too", x.effect(1, 0, 1), 1);
        due.fraction("the other way all but one come up to it", x, 137846528819L, 137846528820L);
        due.is("the other way nearly all come up to it", x.sure(), 999);
    }

    /** A ROOM is NAMED, if more than half of its READ ones are. */
    private static void namedRooms() {
        for (int size = 1; size <= 6; size++) {
            for (int named = 0; named <= size; named++) {
                BloomRooms x = children(0);
                x.room(0, false);
                for (int c = 0; c < size; c++) {
                    x.child(0, 1, 0);
                    tell(x, c, 0, 100, 1, 110);
                    x.word(c, c < named ? 1 : 0);
                }
                x.child(1, 1, 0);
                tell(x, size, 0, 100, 1, 105);
                due.is(named + " of " + size, x.effect(0, 1, 2), 2 * named > size ? 1 : 0);
                due.fraction(named + " of " + size, x, 2 * named > size ? 1 : 0, 2 * named > size ? 2 : 0);
            }
        }
        BloomRooms x = children(2);
        x.room(0, false);
        x.child(1, 1, 0);
        for (int c = 0; c < 3; c++) {
            tell(x, c, 0, 100, 1, 110);
        }
        x.word(0, 1);
        due.is("one of two is named", x.effect(0, 1, 2), 0);
        x.tell(1, 0, -1);
        due.is("one of one that is read", x.effect(0, 1, 2), 1);
        x.tell(2, 0, -1);
        due.is("the only room with read ones", x.effect(0, 1, 2), 0);
    }

    private static void roomByRoomOneByOne() {
        for (int n = 0; n < 81; n++) {
            int[] mean = {1000 * (n % 3), 500 * (n / 3 % 3), 333 * (n / 9 % 3 - 1), 1000 * (n / 27), 250};
            int[] size = {1, 2, 3, 1, 4};
            for (int named = 0; named < 32; named++) {
                BloomRooms x = new BloomRooms();
                int child = 0;
                for (int r = 0; r < 5; r++) {
                    x.room(0, false);
                    for (int i = 0; i < size[r]; i++, child++) {
                        x.child(r, 1, 0);
                        int grew = (mean[r] * size[r] + (r == 2 ? mean[r] / 333 : 0)) / 1000;
                        tell(x, child, 0, 100, 1, 100 + (i == 0 ? grew : 0));
                        x.word(child, named >> r & 1);
                    }
                }
                int[] ways = ways(mean, named);
                boolean split = named > 0 && named < 31;
                due.is("room by room " + n + " " + named, x.effect(0, 1, 2), split ? 1 : 0);
                if (split) {
                    isBy("room by room " + n + " " + named, x, ways[0], ways[1]);
                }
            }
        }
    }

    /** ROOMS without READ ones before, between and behind the others are of no set. */
    private static void roomsWithoutReadOnes() {
        for (int there = 0; there < 64; there++) {
            int many = Integer.bitCount(there);
            for (int named = 0; named < 1 << many; named++) {
                BloomRooms x = new BloomRooms();
                int[] mean = new int[many];
                int place = 0;
                for (int r = 0; r < 6; r++) {
                    x.room(0, false);
                    int child = x.child(r, 1, 0);
                    x.tell(child, 0, 100);
                    if ((there >> r & 1) == 1) {
                        x.word(child, named >> place & 1);
                        x.tell(child, 1, 100 + 7 * r % 5);
                        mean[place] = 7 * r % 5;
                        place++;
                    } else {
                        x.word(child, 1);
                    }
                }
                int[] ways = ways(mean, named);
                boolean split = named > 0 && named < (1 << many) - 1;
                String call = "rooms " + Integer.toBinaryString(there) + " named " + Integer.toBinaryString(named);
                due.is(call, x.effect(0, 1, 2), split ? 1 : 0);
                if (split) {
                    isBy(call, x, ways[0], ways[1]);
                }
            }
        }
    }

    private static void endsCountInAllButClean() {
        BloomRooms x = children(3);
        x.word(0, 1);
        tell(x, 0, 0, 180, 1, 200);
        tell(x, 1, 0, 0, 1, 4);
        tell(x, 2, 0, 10, 1, 16);
        due.is("mean", x.mean(0, 0, 1), 10000);
        due.is("a look", x.looks(0), 1);
        due.is("best", x.looks(1), 1);
        due.is("paid", x.paid(), 1);
        due.fraction("paid", x, 1, 3);
        x.effect(0, 1, 1);
        due.fraction("anew", x, 1, 3);
        x.effect(0, 1, 0);
        due.fraction("effect", x, 15, 1);
        due.is("clean", x.effect(0, 1, 3), 0);
    }

    /** Three groups of children, each read in two tests of its own: the named one is that many-th of so many. */
    private static BloomRooms groups(int[] placesAndSizes) {
        BloomRooms x = children(0);
        int child = 0;
        for (int g = 0; g < 3; g++) {
            for (int i = 1; i <= placesAndSizes[2 * g + 1]; i++, child++) {
                x.child(0, 1, 0);
                tell(x, child, 2 * g, 100, 2 * g + 1, 150 - i);
                x.word(child, i == placesAndSizes[2 * g] ? 1 : 0);
            }
        }
        return x;
    }

    /** The least of three fractions that lie close together, and the first of those that are the same. */
    private static void best() {
        int[][] three = {{1, 2, 1, 3, 1, 4}, {3, 4, 2, 3, 5, 7}, {2, 5, 3, 8, 4, 11}, {5, 13, 3, 8, 7, 19},
            {2, 2, 3, 3, 4, 4}, {2, 4, 1, 2, 3, 6}, {1, 2, 2, 4, 1, 3}, {4, 7, 5, 9, 9, 16}, {7, 9, 4, 5, 11, 14},
            {9, 10, 8, 9, 10, 11}, {1, 8, 1, 7, 1, 9}, {6, 7, 7, 8, 5, 6}, {1, 3, 2, 6, 3, 9}, {2, 3, 4, 6, 1, 2},
            {5, 5, 4, 4, 12, 13}, {3, 8, 1, 3, 2, 7}, {1, 12, 2, 13, 2, 15}, {8, 13, 5, 8, 11, 18}, {2, 3, 3, 3, 5, 8}};
        int[] best = {45, 23, 45, 45, 1, 1, 45, 23, 1, 23, 45, 45, 1, 45, 45, 45, 1, 45, 45};
        for (int n = 0; n < three.length; n++) {
            BloomRooms x = groups(three[n]);
            due.is("looks " + n, x.looks(0), 3);
            due.is("best " + n, x.looks(1), best[n]);
            int g = best[n] == 1 ? 0 : best[n] == 23 ? 1 : 2;
            due.is("paid " + n, x.paid(), 1);
            int upper = Math.min(3 * three[n][2 * g], three[n][2 * g + 1]);
            isBy("paid " + n, x, upper, three[n][2 * g + 1]);
        }
    }

    private static void bestOfTies() {
        BloomRooms x = children(2);
        x.word(0, 1);
        for (int test = 0; test < 6; test++) {
            x.tell(0, test, 100);
            x.tell(1, test, 100);
        }
        due.is("the first of all", x.looks(1), 1);
        // the named one falls and falls: each later look is worse for it, all have 2 of 2
        for (int test = 0; test < 6; test++) {
            x.tell(0, test, 100 - test);
        }
        due.is("the first of all", x.looks(1), 1);
        x.tell(0, 5, 200);
        due.is("the first a with the last b", x.looks(1), 5);
        x.tell(0, 4, 150);
        due.is("the first b", x.looks(1), 4);
        x.tell(0, 0, 200);
        due.is("the next a", x.looks(1), 14);
        x.tell(0, 1, 200);
        x.tell(0, 2, 200);
        x.tell(0, 3, 199);
        x.tell(0, 4, 198);
        due.is("the last a that grows", x.looks(1), 35);
        x.tell(0, 3, 200);
        due.is("the last of all", x.looks(1), 45);
    }

    /** Three groups of twelve or thirteen children, some named: ANEW of each is by hundreds of ways. */
    private static void bestOfGreatNumbers() {
        int n = 1;
        for (int round = 0; round < 60; round++) {
            BloomRooms x = children(0);
            int child = 0;
            int best = -1;
            int[] least = {1, 1};
            for (int g = 0; g < 3; g++) {
                int[] grew = new int[12 + (round + g) % 2];
                int named = 0;
                for (int i = 0; i < grew.length; i++, child++) {
                    n = 1103515245 * n + 12345;
                    grew[i] = (n >>> 16) % 40;
                    boolean isNamed = (n >>> 24) % 3 == g % 2 && i > 0 || i == 1;
                    named |= isNamed ? 1 << i : 0;
                    x.child(0, 1, 0);
                    tell(x, child, 2 * g, 100, 2 * g + 1, 100 + grew[i]);
                    x.word(child, isNamed ? 1 : 0);
                }
                int[] ways = ways(grew, named);
                x.effect(2 * g, 2 * g + 1, 1);
                isBy("anew " + round + " " + g, x, ways[0], ways[1]);
                if (best < 0 || (long) ways[0] * least[1] < (long) least[0] * ways[1]) {
                    best = 20 * g + 2 * g + 1;
                    least = ways;
                }
            }
            due.is("best of great numbers " + round, x.looks(1), best);
            x.paid();
            isBy("paid " + round, x, Math.min(3 * least[0], least[1]), least[1]);
        }
    }

    private static void fifteenLooks() {
        BloomRooms x = children(40);
        x.word(39, 1);
        for (int c = 0; c < 40; c++) {
            for (int test = 0; test < 6; test++) {
                x.tell(c, test, c == 39 ? 100 + test : 100);
            }
        }
        due.is("looks", x.looks(0), 15);
        due.is("best", x.looks(1), 1);
        x.paid();
        due.fraction("15 times 1 by 40", x, 3, 8);
        for (int c = 0; c < 40; c++) {
            x.word(c, 1);
        }
        due.is("no looks without others", x.looks(0), 0);
        due.is("no best", x.looks(1), -1);
        due.is("not paid", x.paid(), 0);
        due.fraction("not paid", x, 0, 0);
        for (int c = 0; c < 39; c++) {
            x.word(c, 2);
        }
        due.is("looks with others", x.looks(0), 15);
        for (int test = 0; test < 6; test++) {
            x.tell(39, test, -1);
        }
        due.is("no looks without named ones", x.looks(0), 0);
        due.is("no best", x.looks(1), -1);
        due.is("not paid", x.paid(), 0);
        due.fraction("not paid", x, 0, 0);
    }

    /** Below 1, just 1, above 1. */
    private static void paid() {
        BloomRooms x = groups(new int[] {1, 4, 4, 4, 5, 5});
        x.paid();
        due.fraction("3 by 4", x, 3, 4);
        x = groups(new int[] {1, 3, 4, 4, 5, 5});
        x.paid();
        due.fraction("3 by 3", x, 1, 1);
        x = groups(new int[] {2, 5, 4, 4, 5, 5});
        x.paid();
        due.fraction("6 by 5 is 1", x, 1, 1);
        x = groups(new int[] {2, 7, 4, 4, 5, 5});
        x.paid();
        due.fraction("6 by 7", x, 6, 7);
        x = groups(new int[] {2, 2, 4, 4, 5, 5});
        x.paid();
        due.fraction("3 is 1", x, 1, 1);
    }
}
