import java.math.BigInteger;

/** FILMS against what was read, slopes of TRIALS, KEPT LAWS and what a school may be told: each at its edges. */
public final class PlansEdgesTest {
    private static final Due due = new Due();

    public static void main(String[] args) {
        hairWithoutEither();
        carriedByWays();
        enough();
        enoughOfGreatNumbers();
        enoughWithoutEither();
        sameWithoutEither();
        curvesWithoutOne();
        curveByLeastSquares();
        edges();
        edgesOfGreatNumbers();
        edgesWithoutOne();
        fitsByNoise();
        fitsOfReadOnesAlone();
        foretoldByYears();
        foretoldByForgetting();
        likelyIsTheFirst();
        saysInOrder();
        saysEnds();
        saysChance();
        saysNothingPaid();
        due.end();
    }

    /** One named one that grew so much, and others. */
    private static BloomRooms grown(int named, int... others) {
        BloomRooms x = new BloomRooms();
        x.room(0, false);
        add(x, 1, named);
        for (int other : others) {
            add(x, 0, other);
        }
        return x;
    }

    private static void add(BloomRooms x, int word, int grew) {
        int c = x.child(0, 1, 0);
        x.word(c, word);
        x.tell(c, 0, 100);
        x.tell(c, 1, 100 + grew);
    }

    private static void hairWithoutEither() {
        for (int named = 0; named < 3; named++) {
            for (int others = 0; others < 3; others++) {
                BloomRooms x = new BloomRooms();
                for (int i = 0; i < named; i++) {
                    x.film(1, true, 7);
                }
                for (int i = 0; i < others; i++) {
                    x.film(1, false, 4);
                }
                x.film(0, true, 1);
                x.film(2, false, 1);
                boolean both = named > 0 && others > 0;
                due.is("hair", x.hair(1, 0), both ? 1 : 0);
                due.fraction("hair", x, both ? 3 : 0, both ? 1 : 0);
                due.is("blind", x.hair(1, 1), both ? 1 : 0);
                int ways = named * others == 4 ? 6 : named + others;
                due.fraction("blind", x, both ? 1 : 0, both ? ways : 0);
                due.is("carried", x.carried(), both ? 1 : 0);
                due.is("hair of named ones alone", x.hair(0, 0), 0);
                due.is("hair of others alone", x.hair(2, 0), 0);
            }
        }
    }

    private static void carriedByWays() {
        BloomRooms x = new BloomRooms();
        Due.say(x, 0, "warmth gives 0 grows 1;time gives 0 grows 99;harder gives 0 grows 50;");
        x.film(0, true, 99);
        x.film(0, false, 0);
        x.carried();
        due.fraction("99 by 100", x, 99, 100);
        x.film(1, true, 0);
        x.film(1, false, 1);
        x.carried();
        due.fraction("99 less 99 by 100", x, 0, 1);
        x.film(2, false, 5);
        x.carried();
        due.fraction("no hair of the third way", x, 0, 1);
        x.film(2, true, 6);
        x.carried();
        due.fraction("1 by 2", x, 1, 2);
        x.film(2, false, 7);
        x.film(2, false, 8);
        x.carried();
        due.fraction("6 less 20 by 3, by 2", x, -1, 3);
        due.is("thousandths", x.sure(), -333);
        Due.say(x, 0, "");
        x.carried();
        due.fraction("without grows", x, 0, 1);
    }

    /** CARRIED of a hair times grows by 100 against an EFFECT. */
    private static void enough() {
        int[][] table = {
            {1, 50, 1, 1, 0}, {1, 50, 1, 1, 0, 0}, {1, 50, 1, 1, 1, 0}, {1, 51, 1, 1, 0}, {1, 49, 1, 1, 0},
            {1, 67, 1, 1, 0, 0}, {1, 66, 1, 1, 0, 0}, {1, 34, 1, 1, 1, 0}, {1, 33, 1, 1, 1, 0},
            {-1, 50, 0, 1, 0}, {-1, 51, 0, 1, 0}, {-1, 49, 0, 1, 0}, {-1, 33, 0, 1, 0, 0}, {-1, 34, 0, 1, 0, 0},
            {0, 99, 0, 0}, {0, 99, 1, 0}, {0, 99, 0, 1}, {3, 50, 2, 1, 0, 0}, {3, 50, 2, 1, 1, 0}, {3, 50, 2, 1, 0},
            {-3, 50, -2, -1, -1, 0}, {-3, 50, -2, -1, 0, 0}, {-3, 50, -2, -1, 0}, {2, 99, 2, 0}, {1, 99, 2, 0},
            {99, 99, 99, 0}, {99, 99, 98, 0}, {7, 80, 6, 1, 0, 0, 1, 0}, {7, 80, 6, 1, 0, 0, 1, 0, 0},
            {-7, 80, -6, -1, 0, 0, -1, 0}, {7, 79, 6, 1, 0, 0, 1, 0}, {7, 81, 6, 1, 0, 0, 1, 0}};
        for (int[] one : table) {
            int[] others = new int[one.length - 3];
            long sum = 0;
            for (int i = 0; i < others.length; i++) {
                others[i] = one[3 + i];
                sum += others[i];
            }
            BloomRooms x = grown(one[2], others);
            x.film(0, true, Math.max(0, one[0]));
            x.film(0, false, Math.max(0, -one[0]));
            Due.say(x, 0, "warmth gives 1 grows " + one[1] + ";");
            long n = others.length;
            long effect = one[2] * n - sum;
            boolean isEnough = one[0] * one[1] * n >= 100 * effect;
            due.is("hair " + one[0] + " grows " + one[1] + ", effect " + effect + " by " + n, x.enough(0, 1),
                    isEnough ? 1 : 0);
            due.fraction("the fraction stays", x, 0, 0);
        }
    }

    /** CARRIED of two ways by hundreds against an EFFECT by hundreds; most of them lie close together. */
    private static void enoughOfGreatNumbers() {
        int n = 77;
        int[] answers = new int[2];
        for (int round = 0; round < 300; round++) {
            int[] seen = new int[24];
            for (int i = 0; i < 24; i++) {
                n = 1103515245 * n + 12345;
                seen[i] = (n >>> 16) % 100;
            }
            int grows = Math.max(1, seen[0]);
            BloomRooms x = new BloomRooms();
            Due.say(x, 0, "warmth gives 0 grows " + grows + ";harder gives 0 grows 99;");
            // five named and six others of one way, three named and ten others of another
            int[] sum = new int[4];
            for (int i = 0; i < 24; i++) {
                int part = i < 5 ? 0 : i < 11 ? 1 : i < 14 ? 2 : 3;
                x.film(part < 2 ? 0 : 2, part % 2 == 0, seen[i]);
                sum[part] += seen[i];
            }
            long upper = grows * (6L * sum[0] - 5 * sum[1]) + 99L * (10 * sum[2] - 3 * sum[3]);
            long lower = 3000;
            int near = (int) Math.max(-190, Math.min(190, Math.floorDiv(upper, lower)));
            x.room(0, false);
            add(x, 1, near);
            int others = 7 + round % 12;
            int all = 0;
            for (int i = 0; i < others; i++) {
                int other = i < round % 7 ? -1 : 0;
                add(x, 0, other);
                all += other;
            }
            boolean isEnough = upper * others >= lower * ((long) near * others - all);
            answers[isEnough ? 1 : 0]++;
            due.is("enough of great numbers " + round, x.enough(0, 1), isEnough ? 1 : 0);
            due.is("carried", x.carried(), 1);
            due.is("carried " + round, x.upper() * lower, upper * x.lower());
        }
        due.is("some are enough, some aren't", Math.min(answers[0], answers[1]) > 50 ? 1 : 0, 1);
    }

    private static void enoughWithoutEither() {
        BloomRooms x = grown(5, 4);
        due.is("no hair", x.enough(0, 1), -1);
        due.is("neither", x.enough(0, 2), -1);
        x.film(0, true, 5);
        due.is("no hair of one film", x.enough(0, 1), -1);
        x.film(0, false, 5);
        due.is("0 isn't 1", x.enough(0, 1), 0);
        due.is("0 is more than -1", x.enough(1, 0), 1);
        due.is("no effect", x.enough(0, 2), -1);
        x.word(0, 0);
        due.is("none named", x.enough(0, 1), -1);
        x.word(0, 1);
        x.word(1, 1);
        due.is("no others", x.enough(0, 1), -1);
        x.curve(true);
        x.hair(0, 1);
        due.is("none still", x.enough(0, 1), -1);
        due.fraction("the fraction stays", x, 1, 1);
    }

    private static void sameWithoutEither() {
        BloomRooms x = grown(5, 4);
        due.is("no marks", x.same(0), 0);
        x.mark(0, 0, 90);
        due.is("none of others", x.same(0), 0);
        due.fraction("none of others", x, 0, 0);
        x.mark(1, 0, 100);
        due.is("same", x.same(0), 1);
        due.fraction("10 less 0", x, 10, 1);
        due.is("none in the other test", x.same(1), 0);
        x.word(0, 2);
        due.is("none named", x.same(0), 0);
        x.word(0, 1);
        x.word(1, 1);
        due.is("no others", x.same(0), 0);
        x.word(1, 5);
        x.tell(1, 0, -1);
        due.is("none with points", x.same(0), 0);
        x.tell(1, 0, 0);
        x.same(0);
        due.fraction("0 points are some", x, 110, 1);
        x.mark(1, 0, 0);
        x.same(0);
        due.fraction("a mark of 0 is one", x, 10, 1);
        x.mark(1, 1, 200);
        x.same(0);
        due.fraction("a mark in another test", x, 10, 1);
        x.give(0, 3, false);
        x.same(0);
        due.fraction("as the points are now", x, -90, 1);
    }

    private static void curvesWithoutOne() {
        for (int n = 0; n < 4; n++) {
            BloomRooms x = new BloomRooms();
            for (int i = 0; i < n; i++) {
                x.trial(20, 100 * i, 999 - i, i % 2 == 0);
            }
            due.is("trials of the same weeks", x.curve(false), 0);
            due.is("printed ones of the same weeks", x.curve(true), 0);
            due.fraction("none", x, 0, 0);
            x.trial(19, 5, 1, false);
            due.is("of two weeks", x.curve(false), n > 0 ? 1 : 0);
            due.is("printed ones of the same weeks", x.curve(true), 0);
            x.trial(0, 5, 1, true);
            due.is("printed ones of two weeks", x.curve(true), n > 0 ? 1 : 0);
        }
    }

    private static void curveByLeastSquares() {
        BloomRooms x = new BloomRooms();
        x.trial(0, 0, 1, true);
        x.trial(1, 2, 1, true);
        x.trial(2, 0, 2, true);
        // 4 times 2 less 5 times 2, by 4 times 9 less 25
        x.curve(true);
        due.fraction("below 0", x, -2, 11);
        x.trial(4, 1, 3, false);
        // 7 times 14 less 17 times 5, by 7 times 57 less 289
        x.curve(false);
        due.fraction("above 0", x, 13, 110);
        x.curve(true);
        due.fraction("of the printed ones", x, -2, 11);
        BloomRooms y = new BloomRooms();
        y.trial(3, 7, 5, true);
        y.trial(8, 7, 900, true);
        y.curve(true);
        due.fraction("level", y, 0, 1);
    }

    /** Of three TRIALS the slopes of two. */
    private static void edges() {
        int[][] three = {{0, 0, 3, 1, 7, 3}, {0, 0, 3, -1, 7, -3}, {0, 0, 5, 7, 12, 17}, {0, 0, 12, 17, 17, 24},
            {0, 0, 7, -10, 12, -17}, {0, 5, 1, 5, 2, 5}, {0, 0, 1, -1, 2, 1}, {0, 0, 10, 3, 20, 6}, {0, 0, 1, 1, 3, -1},
            {0, 0, 8, 13, 13, 21}, {1, 900, 10, 0, 20, -999}, {0, -999, 1, 999, 2, -999}, {0, 1, 19, 2, 20, 3}};
        int[][] due4 = {{1, 3, 1, 2}, {-1, 2, -1, 3}, {7, 5, 10, 7}, {7, 5, 17, 12}, {-10, 7, -7, 5}, {0, 1, 0, 1},
            {-1, 1, 2, 1}, {3, 10, 3, 10}, {-1, 1, 1, 1}, {8, 5, 13, 8}, {-100, 1, -999, 10}, {-1998, 1, 1998, 1},
            {1, 19, 1, 1}};
        for (int n = 0; n < three.length; n++) {
            for (int order = 0; order < 3; order++) {
                BloomRooms x = new BloomRooms();
                for (int i = 0; i < 3; i++) {
                    int k = 2 * ((i + order) % 3);
                    x.trial(three[n][k], three[n][k + 1], 1 + 100 * i, order == 1);
                }
                due.is("least " + n, x.edge(false, false), 1);
                due.fraction("least " + n, x, due4[n][0], due4[n][1]);
                due.is("most " + n, x.edge(false, true), 1);
                due.fraction("most " + n, x, due4[n][2], due4[n][3]);
                due.is("printed or not " + n, x.edge(true, true), order == 1 ? 1 : 0);
                due.fraction("printed or not " + n, x, order == 1 ? due4[n][2] : 0, order == 1 ? due4[n][3] : 0);
            }
        }
    }

    /** Up to 20 TRIALS of great sizes: the slopes without one of them lie close together, by great numbers. */
    private static void edgesOfGreatNumbers() {
        int n = 5;
        for (int round = 0; round < 200; round++) {
            int many = 3 + round % 18;
            int[][] trials = new int[many][4];
            BloomRooms x = new BloomRooms();
            for (int[] one : trials) {
                for (int k = 0; k < 4; k++) {
                    n = 1103515245 * n + 12345;
                    one[k] = (n >>> 16) % new int[] {21, 1999, 999, 2}[k];
                }
                one[1] = round % 3 == 0 ? one[1] % 5 : one[1] - 999;
                one[2] = round % 2 == 0 ? one[2] % 20 + 980 : one[2] + 1;
                x.trial(one[0], one[1], one[2], one[3] == 1);
            }
            edge(x, "edges of great numbers " + round, trials, false);
            edge(x, "edges of great printed numbers " + round, trials, true);
        }
    }

    private static void edge(BloomRooms x, String call, int[][] trials, boolean printed) {
        BigInteger[] least = null;
        BigInteger[] most = null;
        for (int without = 0; without < trials.length; without++) {
            BigInteger[] one = slope(trials, printed, without);
            if (printed && trials[without][3] == 0 || one[1].signum() == 0) {
                continue;
            }
            least = least == null || times(one, least) < 0 ? one : least;
            most = most == null || times(one, most) > 0 ? one : most;
        }
        is(call + " least", x.edge(printed, false), x, least);
        is(call + " most", x.edge(printed, true), x, most);
    }

    private static int times(BigInteger[] one, BigInteger[] other) {
        return one[0].multiply(other[1]).compareTo(other[0].multiply(one[1]));
    }

    private static void is(String call, int answer, BloomRooms x, BigInteger[] wanted) {
        due.is(call, answer, wanted == null ? 0 : 1);
        BigInteger divisor = wanted == null ? BigInteger.ONE : wanted[0].gcd(wanted[1]);
        due.fraction(call, x, wanted == null ? 0 : wanted[0].divide(divisor).longValueExact(),
                wanted == null ? 0 : wanted[1].divide(divisor).longValueExact());
    }

    /** As the document writes it. */
    private static BigInteger[] slope(int[][] trials, boolean printed, int without) {
        long w = 0;
        long sizeWeeks = 0;
        long sizeEffect = 0;
        long sizeBoth = 0;
        long sizeSquared = 0;
        for (int i = 0; i < trials.length; i++) {
            if (i != without && (!printed || trials[i][3] == 1)) {
                long size = trials[i][2];
                w += size;
                sizeWeeks += size * trials[i][0];
                sizeEffect += size * trials[i][1];
                sizeBoth += size * trials[i][0] * trials[i][1];
                sizeSquared += size * trials[i][0] * trials[i][0];
            }
        }
        return new BigInteger[] {BigInteger.valueOf(w * sizeBoth - sizeWeeks * sizeEffect),
            BigInteger.valueOf(w * sizeSquared - sizeWeeks * sizeWeeks)};
    }

    private static void edgesWithoutOne() {
        for (int many = 0; many < 4; many++) {
            BloomRooms x = new BloomRooms();
            for (int i = 0; i < many; i++) {
                x.trial(5, i, 1, true);
            }
            due.is("of the same weeks", x.edge(false, true), 0);
            x.trial(6, 9, 1, false);
            // only one without the last one is 0 over 0; with one other there is none
            due.is("and one of other weeks", x.edge(false, true), many > 1 ? 1 : 0);
            due.is("and one of other weeks", x.edge(false, false), many > 1 ? 1 : 0);
            due.is("of the printed ones", x.edge(true, false), 0);
            due.fraction("of the printed ones", x, 0, 0);
        }
        BloomRooms x = new BloomRooms();
        x.trial(5, 0, 1, true);
        x.trial(5, 8, 1, true);
        x.trial(6, 2, 1, true);
        x.edge(true, true);
        due.fraction("2 less 0", x, 2, 1);
        x.edge(true, false);
        due.fraction("2 less 8", x, -6, 1);
        x.trial(20, -999, 999, false);
        x.edge(true, false);
        due.fraction("one that isn't printed", x, -6, 1);
    }

    /** Off by 2 times the noise fits, by one more it doesn't. */
    private static void fitsByNoise() {
        for (int noise = 0; noise <= 20; noise++) {
            BloomRooms x = grown(7 + 2 * noise, 7 - 2 * noise, 7 + 2 * noise + 1, 7 - 2 * noise - 1, 7);
            Due.say(x, 0, "gift 7;noise " + noise + ";");
            x.keep(0);
            Due.say(x, 0, "noise 20;");
            x.give(2, 0, false);
            x.year();
            x.give(3, 0, false);
            for (int c = 0; c < 5; c++) {
                int points = x.point(c, 1);
                x.tell(c, 2, 100);
                x.tell(c, 3, points);
            }
            due.is("by noise " + noise, x.fits(0, 2, 3), 3);
            x.tell(4, 3, 107 + 2 * noise + 1);
            due.is("by noise " + noise, x.fits(0, 2, 3), 2);
            x.tell(4, 3, 107 - 2 * noise - 1);
            due.is("by noise " + noise, x.fits(0, 2, 3), 2);
            x.tell(4, 3, 107 - 2 * noise);
            due.is("by noise " + noise, x.fits(0, 2, 3), 3);
        }
    }

    /** Those with POINTS in both, for whom no RULE's TEST holds, by their POINTS in the first one. */
    private static void fitsOfReadOnesAlone() {
        BloomRooms x = grown(5, 5, 5);
        Due.say(x, 0, "noise 20;");
        x.keep(2);
        due.is("all", x.fits(2, 0, 1), 3);
        x.tell(0, 0, -1);
        x.tell(0, 1, 5);
        due.is("one without points in a", x.fits(2, 0, 1), 2);
        due.is("one without points in b", x.fits(2, 1, 0), 2);
        x.tell(1, 1, 110);
        Due.say(x, 1, "out if above 109;");
        due.is("by the points in a", x.fits(2, 0, 1), 2);
        due.is("by the points in a, the other way", x.fits(2, 1, 0), 1);
        Due.say(x, 0, "noise 2;");
        x.keep(0);
        due.is("by read ones alone", x.likely(1, 0), 2);
        x.tell(2, 1, 102);
        due.is("by read ones alone", x.likely(1, 0), 0);
        Due.say(x, 1, "out if room 0;");
        due.is("none", x.fits(2, 0, 1), 0);
        due.is("none: the first kept one", x.likely(0, 1), 0);
    }

    /** The YEARS from that of a on, below that of b; none, if b isn't later. */
    private static void foretoldByYears() {
        for (int a = 0; a <= 5; a++) {
            for (int b = 0; b <= 5; b++) {
                if (a == b) {
                    continue;
                }
                BloomRooms x = grown(0, 0);
                Due.say(x, 0, "gift 7;");
                x.keep(1);
                Due.say(x, 0, "");
                int[] year = {2, 0, 6, 2, 5, 0};
                for (int now = 0; now <= 6; now++) {
                    for (int test = 0; test < 5; test++) {
                        if (year[test] == now) {
                            x.give(test, 0, false);
                        }
                    }
                    x.year();
                }
                int foretold = 7 * Math.max(0, year[b] - year[a]);
                x.tell(0, a, 100);
                x.tell(0, b, 100 + foretold);
                x.tell(1, a, 100);
                x.tell(1, b, 100 + foretold);
                due.is("foretold from " + a + " to " + b, x.fits(1, a, b), 2);
                x.tell(0, b, 100 + foretold + 1);
                due.is("one more from " + a + " to " + b, x.fits(1, a, b), 1);
                x.tell(1, b, 100 + foretold - 1);
                due.is("one less from " + a + " to " + b, x.fits(1, a, b), 0);
            }
        }
    }

    /** As HOLD is then: whole in YEAR 0, half of it in later ones, by the KEPT LAW and the WORD it has now. */
    private static void foretoldByForgetting() {
        BloomRooms x = new BloomRooms();
        x.room(3, true);
        x.child(0, 1, 100);
        x.child(0, 1, 100);
        x.word(0, 1);
        x.word(1, 1);
        Due.say(x, 0, "named moves 40;known 10;warmth gives 10 grows 50;hears 9;heard moves 20;");
        x.keep(0);
        Due.say(x, 0, "");
        x.give(0, 0, false);
        x.year();
        x.give(1, 0, false);
        x.year();
        x.give(2, 0, false);
        int[][] tests = {{0, 1, 14}, {1, 2, 7}, {0, 2, 21}, {2, 0, 0}, {1, 0, 0}};
        for (int[] one : tests) {
            x.tell(0, one[0], 100);
            x.tell(0, one[1], 100 + one[2]);
            x.tell(1, one[0], 100);
            x.tell(1, one[1], 100 + one[2] + 1);
            due.is("from " + one[0] + " to " + one[1], x.fits(0, one[0], one[1]), 1);
        }
        x.word(1, 5);
        // HOLD is 14, GROWS 7 and 9 in YEAR 0; 7, 3 and 9 in YEAR 1
        x.tell(1, 0, 100);
        x.tell(1, 2, 128);
        x.tell(0, 0, -1);
        due.is("by the word it has now", x.fits(0, 0, 2), 1);
        x.gone(1);
        due.is("one that is gone, too", x.fits(0, 0, 2), 1);
    }

    private static void likelyIsTheFirst() {
        for (int best = 0; best < 4; best++) {
            for (int second = 0; second < 4; second++) {
                BloomRooms x = grown(10, 11, 12);
                for (int law = 3; law >= 0; law--) {
                    Due.say(x, 0, "noise " + (law == best || law == second ? 6 : law % 2 == 0 ? 0 : 5) + ";");
                    x.keep(law);
                }
                due.is("the first of both", x.likely(0, 1), Math.min(best, second));
                x.tell(0, 1, -1);
                x.tell(1, 1, -1);
                x.tell(2, 1, -1);
                due.is("none is read", x.likely(0, 1), 0);
            }
        }
        BloomRooms x = grown(10, 11, 12);
        due.is("none is kept", x.likely(0, 1), -1);
        x.keep(2);
        due.is("the only one, by which none fits", x.likely(0, 1), 2);
        x.keep(1);
        due.is("the first of two by which none fits", x.likely(0, 1), 1);
    }

    /** The first that holds: no EFFECT, one told bad, its ends, EFFECT 0 or below, chance. */
    private static void saysInOrder() {
        BloomRooms x = grown(10, 5, 0);
        x.word(2, 3);
        due.is("one was told bad", x.say(0, 1), 1);
        due.is("one was told bad, the other way", x.say(1, 0), 1);
        x.word(0, 0);
        due.is("nothing, though one was told bad", x.say(0, 1), 0);
        x.word(0, 1);
        x.word(2, 4);
        due.is("marked isn't bad", x.say(0, 1), 4);
        x.word(2, 2);
        due.is("true isn't bad", x.say(0, 1), 4);
        x.word(2, 5);
        due.is("heard isn't bad", x.say(0, 1), 4);
        due.is("nothing in other tests", x.say(0, 2), 0);
        due.is("it isn't more", x.say(1, 0), 3);
        x.child(0, 1, 0);
        x.word(3, 3);
        due.is("one that isn't read was told bad", x.say(0, 1), 1);
        x.gone(3);
        due.is("one that is gone, too", x.say(0, 1), 1);
        x.word(3, 0);
        due.is("no longer", x.say(0, 1), 4);
        Due.say(x, 0, "roof 110;");
        due.is("its ends", x.say(0, 1), 2);
        x.word(3, 3);
        due.is("told bad before its ends", x.say(0, 1), 1);
    }

    private static void saysEnds() {
        BloomRooms x = grown(10, 9, 9);
        add(x, 1, 10);
        due.is("chance", x.say(0, 1), 4);
        x.tell(0, 1, 200);
        x.tell(3, 1, 109);
        due.is("clean is 0", x.say(0, 1), 2);
        x.tell(3, 1, 108);
        due.is("clean is below 0", x.say(0, 1), 2);
        x.tell(3, 1, 110);
        due.is("clean is above 0", x.say(0, 1), 4);
        x.tell(3, 0, -1);
        due.is("clean is none", x.say(0, 1), 2);
        // EFFECT 1 by 2, its upper number 1
        x = grown(10, 9, 10);
        Due.say(x, 0, "roof 110;");
        due.is("1 by 2 is above 0", x.say(0, 1), 2);
        // EFFECT below 0, CLEAN above 0, or none
        x = grown(5, 4, 100);
        due.is("an end of the others", x.say(0, 1), 3);
        x.tell(0, 0, 0);
        x.tell(0, 1, 5);
        due.is("no clean, effect below 0", x.say(0, 1), 3);
        x = grown(0, 0);
        due.is("0 isn't more", x.say(0, 1), 3);
        x.tell(0, 1, 200);
        x.tell(1, 1, 200);
        due.is("0 isn't more, no clean", x.say(0, 1), 3);
    }

    /** PAID is above 1 by 20, or not: the named one grew more than all others, or as much as one of them. */
    private static void saysChance() {
        for (int many = 2; many <= 40; many++) {
            int[] others = new int[many - 1];
            BloomRooms x = grown(1, others);
            due.is("1 by " + many, x.say(0, 1), many < 20 ? 4 : 5);
            x.tell(1, 1, 101);
            due.is("2 by " + many, x.say(0, 1), many == 2 ? 3 : many < 40 ? 4 : 5);
        }
        BloomRooms x = grown(1, new int[39]);
        for (int c = 0; c < 40; c++) {
            x.tell(c, 2, 100);
        }
        // three LOOKS
        due.is("3 by 40", x.say(0, 1), 4);
        x.tell(0, 2, -1);
        due.is("1 by 40", x.say(0, 1), 5);
        due.fraction("the fraction stays", x, 0, 0);
    }

    /** Where the RULES leave an EFFECT from 1 to 0 alone, there is no LOOK. */
    private static void saysNothingPaid() {
        BloomRooms x = grown(0, new int[39]);
        x.tell(0, 0, 102);
        for (int c = 1; c < 40; c++) {
            x.tell(c, 1, 101);
        }
        due.is("1 by 40 the other way", x.effect(1, 0, 0), 1);
        Due.say(x, 1, "out if above 101;");
        due.is("no look", x.looks(0), 0);
        due.is("an effect", x.effect(1, 0, 0), 1);
        due.fraction("an effect", x, 3, 1);
        due.is("paid is none", x.say(1, 0), 4);
        due.fraction("the fraction stays", x, 3, 1);
    }
}
