/** What is cut, and towards where: HOLD, GIVEN, GROWS, GIFT, DRAWS, POINTS, MEANS, thousandths. */
public final class CutsTest {
    private static final Due due = new Due();

    public static void main(String[] args) {
        hold();
        halfOfHold();
        knownNoMore();
        given();
        eachWayByItself();
        hears();
        gift();
        giftByGrows();
        forgettingInTheFirstYear();
        draws();
        noise();
        floorAndRoof();
        marks();
        marksBehindThoseGone();
        drawsGoOnInOneRow();
        means();
        thousandths();
        leastNumbers();
        due.end();
    }

    /** Towards 0. */
    private static int by(int upper, int lower) {
        return upper < 0 ? -(-upper / lower) : upper / lower;
    }

    private static String sign(int n) {
        return n < 0 ? "- " + -n : "" + n;
    }

    private static void hold() {
        int[] weeks = {0, 1, 2, 3, 5, 10, 14, 20};
        for (int moves : new int[] {-99, -67, -15, -1, 0, 1, 15, 67, 99}) {
            for (int known : new int[] {0, 1, 5, 7, 33, 50, 99, 100}) {
                BloomRooms x = new BloomRooms();
                Due.say(x, 0, "true moves " + sign(moves) + ";known " + known + ";");
                for (int i = 0; i < weeks.length; i++) {
                    x.room(weeks[i], false);
                    x.room(weeks[i], true);
                    x.child(2 * i, 1, 0);
                    x.child(2 * i + 1, 1, 0);
                    x.word(2 * i, 2);
                    x.word(2 * i + 1, 2);
                }
                for (int year = 0; year < 3; year++) {
                    for (int i = 0; i < weeks.length; i++) {
                        int hold = by(moves * Math.max(0, 100 - known * weeks[i]), 100);
                        String of = moves + " known " + known + " for " + weeks[i] + " in year " + year;
                        due.is(of, x.of(2 * i, 5), hold);
                        due.is(of + ", forgotten", x.of(2 * i + 1, 5), year == 0 ? hold : by(hold, 2));
                    }
                    x.year();
                }
            }
        }
    }

    private static BloomRooms one(int weeks, boolean forgets, int gift, int word, String law) {
        BloomRooms x = new BloomRooms();
        x.room(weeks, forgets);
        x.child(0, 1, gift);
        x.word(0, word);
        Due.say(x, 0, law);
        return x;
    }

    private static void halfOfHold() {
        int[] half = {0, 0, 1, 1, 2, 2, 3};
        for (int n = 0; n < half.length; n++) {
            BloomRooms x = one(0, true, 0, 1, "named moves " + n + ";");
            BloomRooms y = one(0, true, 0, 1, "named moves - " + n + ";");
            due.is("whole in year 0", x.of(0, 5), n);
            due.is("whole in year 0", y.of(0, 5), -n);
            x.year();
            y.year();
            due.is("half of " + n, x.of(0, 5), half[n]);
            due.is("half of -" + n, y.of(0, 5), -half[n]);
        }
    }

    /** 100 less known times WEEKS: 1, 0, below 0. */
    private static void knownNoMore() {
        due.is("1 by 100 of 99", one(1, false, 0, 1, "named moves 99;known 99;").of(0, 5), 0);
        due.is("2 by 100 of 99", one(1, false, 0, 1, "named moves 99;known 98;").of(0, 5), 1);
        due.is("2 by 100 of -99", one(1, false, 0, 1, "named moves - 99;known 98;").of(0, 5), -1);
        due.is("0 of 99", one(1, false, 0, 1, "named moves 99;known 100;").of(0, 5), 0);
        due.is("0 of 99", one(2, false, 0, 1, "named moves 99;known 50;").of(0, 5), 0);
        due.is("2 less than 0", one(2, false, 0, 1, "named moves 99;known 51;").of(0, 5), 0);
        due.is("far below 0", one(20, false, 0, 1, "named moves 99;known 100;").of(0, 5), 0);
        due.is("far below 0", one(20, false, 0, 1, "named moves - 99;known 100;").of(0, 5), 0);
        due.is("known for no weeks", one(0, false, 0, 1, "named moves 99;known 100;").of(0, 5), 99);
    }

    private static void given() {
        String[] ways = {"warmth", "time", "harder"};
        for (int way = 0; way < 3; way++) {
            for (int moves : new int[] {-99, -19, -5, -1, 0, 1, 5, 19, 99}) {
                BloomRooms x = one(0, false, 0, 3, "");
                for (int gives : new int[] {0, 1, 5, 9, 10, 11, 99}) {
                    for (int grows : new int[] {0, 1, 50, 99}) {
                        Due.say(x, 0, "bad moves " + sign(moves) + ";" + ways[way] + " gives " + gives + " grows "
                                + grows + ";");
                        int given = by(moves * gives, 10);
                        String of = ways[way] + " " + moves + " gives " + gives + " grows " + grows;
                        due.is(of, x.given(0, way), given);
                        due.is(of + " another way", x.given(0, (way + 1) % 3), 0);
                        due.is(of + " grows", x.of(0, 6), by(given * grows, 100));
                    }
                }
            }
        }
    }

    private static void eachWayByItself() {
        String law = "warmth gives 10 grows 9;time gives 10 grows 9;harder gives 10 grows 9;named moves 11;";
        BloomRooms x = one(0, false, 0, 1, law);
        due.is("three times 0.99", x.of(0, 6), 0);
        Due.say(x, 0, law.replace("11", "- 11"));
        due.is("three times -0.99", x.of(0, 6), 0);
        Due.say(x, 0, law.replace("11", "99"));
        due.is("three times 8.91", x.of(0, 6), 24);
        Due.say(x, 0, law.replace("11", "- 99"));
        due.is("three times -8.91", x.of(0, 6), -24);
    }

    private static void hears() {
        for (int word = 0; word <= 5; word++) {
            BloomRooms x = one(0, false, 100, word, "hears 50;heard moves 10;warmth gives 10 grows 50;");
            due.is("grows by word " + word, x.of(0, 6), word == 5 ? 55 : 0);
            x.year();
            due.is("gift by word " + word, x.of(0, 2), word == 5 ? 155 : 100);
        }
    }

    private static void gift() {
        int[] start = {200, 200, 199, 0, 1};
        int[] more = {50, 49, 50, 50, 0};
        for (int i = 0; i < start.length; i++) {
            BloomRooms x = one(0, false, start[i], 0, "gift " + more[i] + ";");
            for (int year = 1; year <= 6; year++) {
                x.year();
                due.is(start[i] + " and " + year + " times " + more[i], x.of(0, 2),
                        Math.min(400, start[i] + year * more[i]));
            }
            x.give(0, 0, false);
            due.is("no more than the roof", x.point(0, 0), Math.min(200, start[i] + 6 * more[i]));
        }
    }

    /** -5 grows in a YEAR, or 995: 0 at least, 400 at most. */
    private static void giftByGrows() {
        for (int gift = 0; gift <= 8; gift++) {
            BloomRooms x = one(0, false, gift, 3, "bad moves - 10;warmth gives 10 grows 50;");
            due.is("grows", x.of(0, 6), -5);
            x.year();
            due.is(gift + " less 5", x.of(0, 2), Math.max(0, gift - 5));
            Due.say(x, 0, "bad moves - 10;warmth gives 10 grows 50;gift 3;");
            x.year();
            due.is("and less 2", x.of(0, 2), Math.max(0, Math.max(0, gift - 5) - 2));
        }
        BloomRooms x = one(0, false, 200, 1, "named moves 99;warmth gives 99 grows 99;gift 25;");
        due.is("grows", x.of(0, 6), 970);
        x.year();
        due.is("400 at most", x.of(0, 2), 400);
        Due.say(x, 0, "named moves - 99;warmth gives 99 grows 99;gift 50;");
        x.year();
        due.is("0 at least", x.of(0, 2), 0);
        Due.say(x, 0, "named moves 20;warmth gives 99 grows 99;harder gives 99 grows 99;gift 8;");
        due.is("grows", x.of(0, 6), 392);
        x.year();
        due.is("just 400", x.of(0, 2), 400);
    }

    private static void forgettingInTheFirstYear() {
        BloomRooms x = one(0, true, 100, 1, "named moves 10;warmth gives 10 grows 90;");
        due.is("grows in year 0", x.of(0, 6), 9);
        x.year();
        due.is("all of it in the first year", x.of(0, 2), 109);
        due.is("grows in year 1", x.of(0, 6), 4);
        due.is("given in year 1", x.given(0, 0), 5);
        x.year();
        due.is("half of it in the second year", x.of(0, 2), 113);
        x.year();
        due.is("and in the third", x.of(0, 2), 117);
    }

    private static long next(long x) {
        return Math.floorMod(1103515245L * x + 12345, 1L << 32);
    }

    /** The numbers go around as ints do, and DRAW is what stands in the upper half. */
    private static void draws() {
        int[] seeds = {0, 1, -1, 2, 12345, 65535, 65536, -65536, 1 << 30, Integer.MAX_VALUE, Integer.MIN_VALUE};
        for (int seed : seeds) {
            BloomRooms x = new BloomRooms();
            x.room(0, false);
            Due.say(x, 0, "noise 20;");
            for (int c = 0; c < 40; c++) {
                x.child(0, 1, 100);
            }
            x.give(2, seed, false);
            long n = Math.floorMod((long) seed, 1L << 32);
            for (int c = 0; c < 40; c++) {
                n = next(n);
                due.is("seed " + seed + " child " + c, x.point(c, 2), 80 + n / 65536 % 41);
            }
        }
    }

    private static void noise() {
        for (int noise = 0; noise <= 20; noise++) {
            BloomRooms x = one(0, false, 100, 0, "noise " + noise + ";");
            for (int c = 1; c < 40; c++) {
                x.child(0, 1, 100);
            }
            int least = 200;
            int most = 0;
            for (int seed = 0; seed < 11; seed++) {
                x.give(0, seed, false);
                long n = seed;
                for (int c = 0; c < 40; c++) {
                    n = next(n);
                    int points = x.point(c, 0);
                    due.is("noise " + noise + " seed " + seed, points, 100 + n / 65536 % (2 * noise + 1) - noise);
                    least = Math.min(least, points);
                    most = Math.max(most, points);
                }
            }
            due.is("the least by noise " + noise, least, 100 - noise);
            due.is("the most by noise " + noise, most, 100 + noise);
        }
    }

    /** No more than roof, then no less than floor, then 0 to 200. */
    private static void floorAndRoof() {
        int[] gifts = {0, 1, 49, 50, 51, 99, 100, 101, 199, 200};
        for (int floor : new int[] {0, 1, 50, 100, 200}) {
            for (int roof : new int[] {0, 50, 99, 100, 199, 200}) {
                BloomRooms x = new BloomRooms();
                x.room(0, false);
                for (int gift : gifts) {
                    x.child(0, 1, gift);
                }
                Due.say(x, 0, "floor " + floor + ";roof " + roof + ";");
                x.give(0, 1, false);
                for (int c = 0; c < gifts.length; c++) {
                    int points = gifts[c] > roof ? roof : gifts[c];
                    due.is(gifts[c] + " from " + floor + " to " + roof, x.point(c, 0), points < floor ? floor : points);
                }
            }
        }
        for (int seed = 0; seed < 30; seed++) {
            BloomRooms x = one(0, false, 0, 0, "noise 20;");
            x.child(0, 1, 200);
            x.give(0, seed, false);
            long first = next(seed);
            long second = next(first);
            due.is("0 at least", x.point(0, 0), Math.max(0, first / 65536 % 41 - 20));
            due.is("200 at most", x.point(1, 0), Math.min(200, 180 + second / 65536 % 41));
        }
        BloomRooms x = one(0, false, 200, 0, "gift 50;");
        x.year();
        x.year();
        due.is("a gift above 200", x.of(0, 2), 300);
        x.give(0, 1, false);
        due.is("200 at most", x.point(0, 0), 200);
        Due.say(x, 0, "noise 20;roof 200;");
        x.give(0, 5, false);
        due.is("far above 200", x.point(0, 0), 200);
    }

    private static void marks() {
        for (int word = 0; word <= 5; word++) {
            BloomRooms x = one(0, false, 100, word, "marks 50;");
            x.give(0, 1, true);
            x.give(1, 1, false);
            due.is("the giver knew of word " + word, x.point(0, 0), word == 4 ? 150 : 100);
            due.is("the giver didn't know of word " + word, x.point(0, 1), 100);
            Due.say(x, 0, "marks 50;roof 120;");
            x.give(0, 1, true);
            due.is("the roof counts behind the marks", x.point(0, 0), word == 4 ? 120 : 100);
            Due.say(x, 0, "marks 50;floor 130;");
            x.give(0, 1, true);
            due.is("the floor, too", x.point(0, 0), word == 4 ? 150 : 130);
        }
        BloomRooms x = one(0, false, 180, 4, "marks 50;");
        x.give(0, 1, true);
        due.is("200 at most", x.point(0, 0), 200);
    }

    /** The WORD that counts is its own, whoever before it is GONE. */
    private static void marksBehindThoseGone() {
        for (int gone = 0; gone < 16; gone++) {
            for (int marked = 0; marked < 16; marked++) {
                BloomRooms x = one(0, false, 100, 0, "marks 50;");
                for (int c = 1; c < 4; c++) {
                    x.child(0, 1, 100);
                }
                for (int c = 0; c < 4; c++) {
                    x.word(c, (marked >> c & 1) == 1 ? 4 : 0);
                    if ((gone >> c & 1) == 1) {
                        x.gone(c);
                    }
                }
                due.is("those there", x.give(0, 1, true), 4 - Integer.bitCount(gone));
                for (int c = 0; c < 4; c++) {
                    int points = (marked >> c & 1) == 1 ? 150 : 100;
                    due.is("gone " + gone + " marked " + marked + " child " + c, x.point(c, 0),
                            (gone >> c & 1) == 1 ? -1 : points);
                }
            }
        }
    }

    /** A DRAW for each that is there, none for those GONE; for each CHILD that can be dealt to, for each ROOM. */
    private static void drawsGoOnInOneRow() {
        BloomRooms x = new BloomRooms();
        x.room(0, false);
        x.room(0, false);
        x.room(0, false);
        for (int c = 0; c < 8; c++) {
            x.child(c % 2 * 2, 1, 100);
        }
        Due.say(x, 0, "noise 20;");
        x.gone(0);
        x.gone(4);
        x.give(0, -77, false);
        long n = Math.floorMod(-77L, 1L << 32);
        for (int c = 0; c < 8; c++) {
            if (c == 0 || c == 4) {
                due.is("gone", x.point(c, 0), -1);
            } else {
                n = next(n);
                due.is("child " + c, x.point(c, 0), 80 + n / 65536 % 41);
            }
        }
        x.word(1, 5);
        for (int seed = 0; seed < 20; seed++) {
            // ROOM 0: 2 and 6; ROOM 1: nobody; ROOM 2: 3, 5, 7
            x.deal(false, 1, seed);
            int[] these = {2, 6, 3, 5, 7};
            int[] left = {2, 1, 3, 2, 1};
            n = seed;
            boolean open = true;
            for (int i = 0; i < 5; i++) {
                n = next(n);
                open = open || i == 2;
                boolean named = n / 65536 % left[i] < (open ? 1 : 0);
                open = open && !named;
                due.is("seed " + seed + " child " + these[i], x.of(these[i], 3), named ? 1 : 0);
            }
            x.deal(true, 2, seed);
            n = seed;
            int many = 2;
            int[] one = {2, 0, 3};
            for (int r = 0; r < 3; r++) {
                n = next(n);
                boolean named = n / 65536 % (3 - r) < many;
                many -= named ? 1 : 0;
                if (r != 1) {
                    due.is("seed " + seed + " room " + r, x.of(one[r], 3), named ? 1 : 0);
                }
            }
            due.is("heard stays", x.of(1, 3), 5);
        }
    }

    private static void means() {
        int[][] grew = {{1, 0, 0}, {-1, 0, 0}, {2, 0, 0}, {-2, 0, 0}, {200, 200, 199}, {-200, -200, -199}, {7}, {-7, 6}};
        int[] mean = {333, -333, 666, -666, 199666, -199666, 7000, -500};
        for (int i = 0; i < grew.length; i++) {
            BloomRooms x = new BloomRooms();
            x.room(0, false);
            for (int c = 0; c < grew[i].length; c++) {
                x.child(0, 1, 0);
                x.tell(c, 0, grew[i][c] < 0 ? -grew[i][c] : 0);
                x.tell(c, 1, grew[i][c] < 0 ? 0 : grew[i][c]);
            }
            due.is("mean " + i, x.mean(0, 0, 1), mean[i]);
        }
    }

    /** One named one that grew n against d that didn't, and one that did the rest: n by d. */
    private static BloomRooms effect(int named, int... others) {
        BloomRooms x = new BloomRooms();
        x.room(0, false);
        x.child(0, 1, 0);
        x.word(0, 1);
        x.tell(0, 0, 100);
        x.tell(0, 1, 100 + named);
        for (int i = 0; i < others.length; i++) {
            x.child(0, 1, 0);
            x.tell(i + 1, 0, 100);
            x.tell(i + 1, 1, 100 + others[i]);
        }
        x.effect(0, 1, 0);
        return x;
    }

    private static void thousandths() {
        due.is("1 by 3", effect(0, -1, 0, 0).sure(), 333);
        due.is("-1 by 3", effect(0, 1, 0, 0).sure(), -333);
        due.is("2 by 3", effect(0, -1, -1, 0).sure(), 666);
        due.is("-2 by 3", effect(0, 1, 1, 0).sure(), -666);
        due.is("7 by 6", effect(1, -1, 0, 0, 0, 0, 0).sure(), 1166);
        due.is("-7 by 6", effect(-1, 1, 0, 0, 0, 0, 0).sure(), -1166);
        due.is("100", effect(50, -50).sure(), 100000);
        due.is("0", effect(3, 3).sure(), 0);
        due.is("1", effect(3, 2).sure(), 1000);
    }

    private static void leastNumbers() {
        due.fraction("0 over 1", effect(5, 5, 5), 0, 1);
        due.fraction("0 over 1", effect(0, 7, -7), 0, 1);
        due.fraction("4 by 2", effect(3, 1, 1), 2, 1);
        due.fraction("6 by 4", effect(2, 1, 1, 0, 0), 3, 2);
        due.fraction("-6 by 4", effect(-2, -1, -1, 0, 0), -3, 2);
        due.fraction("5 by 3", effect(2, 1, 0, 0), 5, 3);
        due.fraction("-5 by 3", effect(-2, -1, 0, 0), -5, 3);
        due.fraction("without one", effect(2), 0, 0);
    }
}
