/** The least and the greatest number that each call takes, what it then does, and how many of each thing there can be. */
public final class BoundsTest {
    private static final Due due = new Due();

    public static void main(String[] args) {
        weeks();
        rooms();
        children();
        words();
        ofAndGiven();
        tape();
        years();
        testsByThemselves();
        pairsOfTests();
        points();
        dealings();
        dealingsToAll();
        films();
        marks();
        marksOfForty();
        trials();
        keptLaws();
        needed();
        rows();
        rowsOfEachLength();
        images();
        counts();
        manyCalls();
        due.end();
    }

    private static void weeks() {
        BloomRooms x = new BloomRooms();
        BloomRooms y = new BloomRooms();
        Due.say(x, 0, "named moves 99;known 1;");
        Due.say(y, 0, "named moves 99;known 1;");
        for (int weeks = 0; weeks <= 20; weeks++) {
            BloomRooms z = weeks < 10 ? x : y;
            int room = z.room(weeks, false);
            due.is("room of weeks " + weeks, room, weeks % 10 + weeks / 20 * 10);
            int child = z.child(room, 1, 0);
            z.word(child, 1);
            due.is("hold of one known for weeks " + weeks, z.of(child, 5), 99 * (100 - weeks) / 100);
        }
    }

    private static void rooms() {
        BloomRooms x = new BloomRooms();
        for (int r = 0; r < 18; r++) {
            due.is("room", x.room(0, r % 2 == 0), r);
            due.is("rooms", x.count(0), r + 1);
            due.is("a child in the last room", x.child(r, 1, 0), r);
            due.is("none in the next one", x.child(r + 1, 1, 0), -2);
        }
        due.is("room 18", x.room(0, false), -4);
        due.is("rooms", x.count(0), 18);
        for (int r = 0; r < 18; r++) {
            due.is("room of child " + r, x.of(r, 0), r);
            x.tell(r, 0, 10);
            x.tell(r, 1, 10 + r);
            due.is("mean of room " + r, x.mean(r, 0, 1), 1000 * r);
        }
        for (int r = 0; r < 18; r++) {
            Due.say(x, 1, "out if room " + r + ";");
            due.is("all but room " + r, x.read(0, 1, 0), 17);
            due.is("not one of room " + r, x.grew(r, 0, 1), -1000);
        }
    }

    private static void children() {
        for (int grade = 1; grade <= 6; grade++) {
            BloomRooms x = new BloomRooms();
            x.room(0, false);
            due.is("grade", x.child(0, grade, 0), 0);
            due.is("grade", x.of(0, 1), grade);
            due.is("least gift", x.of(0, 2), 0);
            due.is("greatest gift", x.child(0, grade, 200), 1);
            due.is("greatest gift", x.of(1, 2), 200);
            x.tell(0, 0, 1);
            x.tell(0, 1, 1);
            for (int other = 1; other <= 6; other++) {
                Due.say(x, 1, "out if grade " + other + ";");
                due.is("grade " + grade + " by a rule for " + other, x.read(0, 1, 0), grade == other ? 0 : 1);
            }
        }
        BloomRooms x = new BloomRooms();
        x.room(0, false);
        x.room(0, false);
        for (int c = 0; c < 40; c++) {
            due.is("child", x.child(c / 20, 1 + c / 7, 5 * c), c);
            due.is("children", x.count(1), c + 1);
        }
        due.is("child 40", x.child(0, 1, 0), -4);
        due.is("children", x.count(1), 40);
        for (int c = 0; c < 40; c++) {
            due.is("its room", x.of(c, 0), c / 20);
            due.is("its grade", x.of(c, 1), 1 + c / 7);
            due.is("its gift", x.of(c, 2), 5 * c);
        }
    }

    private static void words() {
        BloomRooms x = new BloomRooms();
        x.room(0, false);
        for (int c = 0; c < 40; c++) {
            x.child(0, 1, 0);
        }
        for (int was = 0; was <= 5; was++) {
            x.word(39, was);
            for (int word = 0; word <= 5; word++) {
                due.is("which it had", x.word(39, word), was);
                due.is("which it has", x.of(39, 3), word);
                due.is("named", x.count(9), word == 1 ? 1 : 0);
                x.word(39, was);
            }
        }
        due.is("of no other one", x.of(0, 3) + x.of(38, 3), 0);
        due.is("the last one is gone", x.gone(39), 0);
        due.is("the first one is gone", x.gone(0), 0);
        due.is("gone", x.count(10), 2);
        due.is("which had a word", x.word(39, 0), 5);
    }

    private static void ofAndGiven() {
        BloomRooms x = Schools.some();
        int[][] of = {{0, 1, 57, 1, 1, 18, 4}, {1, 4, 83, 0, 0, 0, 0}};
        for (int what = 0; what <= 6; what++) {
            due.is("of the first, what " + what, x.of(0, what), of[0][what]);
            due.is("of the last, what " + what, x.of(3, what), of[1][what]);
        }
        x.text(1, 0);
        Due.say(x, 0, "named moves 20;warmth gives 1 grows 0;time gives 20 grows 0;harder gives 99 grows 0;");
        due.is("by warmth", x.given(0, 0), 2);
        due.is("by time", x.given(0, 1), 40);
        due.is("harder", x.given(0, 2), 198);
        due.is("to the last one", x.given(3, 2), 0);
    }

    /** Twenty bytes come with each feed, the highest of each int first, 400 in all. */
    private static void tape() {
        BloomRooms x = new BloomRooms();
        x.room(0, false);
        x.child(0, 1, 100);
        String text = "true moves 34; gift 12;true  moves - 65;";
        for (int i = 0; i < 2; i++) {
            int[] n = new int[5];
            for (int k = 0; k < 20; k++) {
                n[k / 4] = 256 * n[k / 4] + text.charAt(20 * i + k);
            }
            due.is("bytes", x.feed(n[0], n[1], n[2], n[3], n[4]), 20 * i + 20);
            due.is("bytes", x.count(8), 20 * i + 20);
        }
        due.is("lines", x.text(0, 40), 3);
        x.word(0, 2);
        due.is("hold", x.of(0, 5), -65);
        for (int i = 1; i <= 20; i++) {
            due.is("bytes", x.feed(0x20202020, 0x0a0a0a0a, 0x20202020, 0x0a0a0a0a, 0x20202020), 20 * i);
        }
        due.is("no more", x.feed(0x20202020, 0x20202020, 0x20202020, 0x20202020, 0x20202020), -4);
        due.is("bytes", x.count(8), 400);
        due.is("all of them", x.text(1, 400), 0);
        due.is("the tape is empty then", x.count(8), 0);
        due.is("and can be fed", x.feed(0, 0, 0, 0, 0), 20);
        due.is("none of its bytes", x.text(1, 0), 0);
        due.is("the tape is empty then", x.count(8), 0);
        due.is("no byte", x.text(0, 1), -3);
        due.is("no byte of none", x.text(0, 0), 0);
        for (int shift = 0; shift < 32; shift += 8) {
            for (int k = 0; k < 5; k++) {
                int[] n = {0x20202020, 0x20202020, 0x20202020, 0x20202020, 0x20202020};
                n[k] = n[k] & ~(255 << shift) | 255 << shift;
                x.feed(n[0], n[1], n[2], n[3], n[4]);
                due.is("byte 255", x.text(0, 20), -11);
                due.is("where it is", x.fault(1), 4 * k + 3 - shift / 8);
            }
        }
    }

    private static void years() {
        BloomRooms x = new BloomRooms();
        for (int y = 1; y <= 6; y++) {
            due.is("year", x.year(), y);
            due.is("years", x.count(2), y);
        }
        due.is("year 7", x.year(), -5);
        due.is("years", x.count(2), 6);
        due.is("a test in year 6", x.give(5, 0, false) + x.count(25), 6);
    }

    private static BloomRooms five() {
        BloomRooms x = new BloomRooms();
        x.room(0, false);
        for (int c = 0; c < 5; c++) {
            x.child(0, 1, 10 * c);
        }
        return x;
    }

    private static void testsByThemselves() {
        for (int test = 0; test < 6; test++) {
            BloomRooms x = five();
            x.year();
            due.is("give", x.give(test, 1, true), 5);
            due.is("tell", x.tell(1, test, 77), 10);
            due.is("mark", x.mark(1, test, 70), 1);
            due.is("mark", x.mark(4, test, 30), 2);
            x.word(1, 1);
            due.is("same", x.same(test), 1);
            due.fraction("same", x, -3, 1);
            for (int other = 0; other < 6; other++) {
                due.is("points in test " + other, x.point(1, other), other == test ? 77 : -1);
                due.is("years of test " + other, x.count(20 + other), other == test ? 1 : 0);
                due.is("same in test " + other, x.same(other), other == test ? 1 : 0);
            }
            x.row(0, 2, 5);
            x.write(0, 2, 99);
            due.is("pour", x.pour(0, test), 5);
            for (int other = 0; other < 6; other++) {
                due.is("points in test " + other, x.point(2, other), other == test ? 99 : -1);
            }
        }
    }

    private static void pairsOfTests() {
        for (int a = 0; a < 6; a++) {
            for (int b = 0; b < 6; b++) {
                if (a == b) {
                    continue;
                }
                BloomRooms x = five();
                x.word(0, 1);
                for (int c = 0; c < 5; c++) {
                    x.tell(c, a, 50);
                    x.tell(c, b, c == 0 ? 70 : 60);
                }
                x.film(0, true, 9);
                x.film(0, false, 9);
                x.keep(0);
                String pair = " of " + a + " and " + b;
                for (int i = 0; i < 6; i++) {
                    for (int k = 0; k < 6; k++) {
                        boolean these = i == a && k == b;
                        if (i != k && i + k == a + b) {
                            due.is("read" + pair, x.read(i, k, 0), these || i == b && k == a ? 5 : 0);
                            due.is("grew" + pair, x.grew(0, i, k), these ? 20 : i == b && k == a ? -20 : -1000);
                        }
                    }
                }
                due.is("named" + pair, x.read(a, b, 1), 1);
                due.is("ends" + pair, x.read(a, b, 2), 0);
                due.is("mean" + pair, x.mean(0, a, b), 12000);
                for (int what = 0; what <= 4; what++) {
                    due.is("effect" + pair + " what " + what, x.effect(a, b, what), what == 2 ? 0 : 1);
                    due.fraction("effect" + pair, x, new int[] {10, 1, 0, 10, 0}[what], new int[] {1, 5, 0, 1, 1}[what]);
                }
                due.is("enough" + pair, x.enough(a, b), 0);
                due.is("fits" + pair, x.fits(0, a, b), 0);
                due.is("likely" + pair, x.likely(a, b), 0);
                due.is("looks" + pair, x.looks(0), 1);
                due.is("best" + pair, x.looks(1), a < b ? 10 * a + b : 10 * b + a);
                due.is("say" + pair, x.say(a, b), 4);
                due.is("say the other way" + pair, x.say(b, a), 3);
            }
        }
    }

    private static void points() {
        BloomRooms x = five();
        int was = -1;
        for (int points : new int[] {0, 200, -1, 1, 199, -1, -1, 200, 0}) {
            due.is("what they were", x.tell(4, 5, points), was);
            due.is("what they are", x.point(4, 5), points);
            was = points;
        }
        x.tell(4, 0, 0);
        due.is("0 points are some", x.read(0, 5, 0), 1);
        due.is("0 points are some", x.grew(4, 0, 5), 0);
        x.tell(4, 5, -1);
        due.is("none are none", x.read(0, 5, 0), 0);
        x.tell(4, 5, 200);
        due.is("the most that can be grown", x.grew(4, 0, 5), 200);
        due.is("the least", x.grew(4, 5, 0), -200);
    }

    private static void dealings() {
        BloomRooms x = new BloomRooms();
        x.room(0, false);
        due.is("nobody", x.deal(false, 0, 1), 0);
        due.is("nobody", x.deal(true, 40, 1), 0);
        for (int c = 0; c < 40; c++) {
            x.child(0, 1, 0);
        }
        for (int many = 0; many <= 40; many++) {
            due.is("so many", x.deal(false, many, 77 * many), many);
            due.is("named", x.count(9), many);
        }
        due.is("all", x.deal(true, 1, 5), 40);
        due.is("none", x.deal(true, 0, 5), 0);
        due.is("all", x.deal(true, 40, 5), 40);
        for (int seed : new int[] {0, -1, Integer.MIN_VALUE, Integer.MAX_VALUE}) {
            due.is("any seed", x.deal(false, 7, seed), 7);
            due.is("any seed", x.deal(true, 1, seed), 40);
        }
    }

    private static void dealingsToAll() {
        BloomRooms x = new BloomRooms();
        for (int r = 0; r < 18; r++) {
            x.room(0, false);
        }
        for (int c = 0; c < 40; c++) {
            x.child(c % 18, 1, 0);
        }
        due.is("one of each room", x.deal(false, 1, 3), 18);
        due.is("two of each room", x.deal(false, 2, 3), 36);
        due.is("three, or all", x.deal(false, 3, 3), 40);
        due.is("none", x.deal(false, 0, 3), 0);
        for (int many = 0; many <= 40; many++) {
            int named = x.deal(true, many, many);
            int rooms = Math.min(many, 18);
            due.is("by so many rooms", named >= 2 * rooms && named <= 2 * rooms + 4 ? 1 : 0, 1);
            due.is("named", x.count(9), named);
        }
        due.is("by all rooms", x.deal(true, 18, 9), 40);
        due.is("by all but one", 40 - x.deal(true, 17, 9) <= 3 ? 1 : 0, 1);
    }

    private static void films() {
        for (int way = 0; way < 3; way++) {
            BloomRooms x = new BloomRooms();
            due.is("film", x.film(way, true, 99), 1);
            due.is("film", x.film(way, false, 0), 2);
            for (int other = 0; other < 3; other++) {
                due.is("hair", x.hair(other, 0), other == way ? 1 : 0);
                due.fraction("hair", x, other == way ? 99 : 0, other == way ? 1 : 0);
                due.is("blind", x.hair(other, 1), other == way ? 1 : 0);
                due.fraction("blind", x, other == way ? 1 : 0, other == way ? 2 : 0);
            }
            Due.say(x, 0, new String[] {"warmth", "time", "harder"}[way] + " gives 0 grows 99;");
            x.carried();
            due.fraction("carried", x, 99 * 99, 100);
            for (int i = 3; i <= 24; i++) {
                due.is("film", x.film(way, i % 2 == 0, i % 2 == 0 ? 99 : 0), i);
                due.is("films", x.count(5), i);
            }
            due.is("film 25", x.film(way, true, 5), -4);
            due.is("films", x.count(5), 24);
            // twelve named ones of 99, twelve others of 0
            due.is("blind by 24", x.hair(way, 1), 1);
            due.fraction("blind by 24", x, 1, 2704156);
        }
    }

    private static void marks() {
        BloomRooms x = five();
        x.word(4, 1);
        x.tell(4, 5, 200);
        x.tell(0, 5, 0);
        due.is("mark", x.mark(4, 5, 0), 1);
        due.is("mark", x.mark(0, 5, 200), 2);
        x.same(5);
        due.fraction("200 less -200", x, 400, 1);
        due.is("the latest", x.mark(4, 5, 200), 3);
        due.is("the latest", x.mark(0, 5, 0), 4);
        x.same(5);
        due.fraction("0", x, 0, 1);
        for (int i = 5; i <= 40; i++) {
            due.is("mark", x.mark(i % 5, i % 6, i), i);
            due.is("marks", x.count(6), i);
        }
        due.is("mark 41", x.mark(4, 5, 7), -4);
        due.is("marks", x.count(6), 40);
        // the latest of child 4 in test 5 is 29, that of child 0 is 35
        x.same(5);
        due.fraction("171 less -35", x, 206, 1);
    }

    private static void marksOfForty() {
        BloomRooms x = new BloomRooms();
        x.room(0, false);
        for (int c = 0; c < 40; c++) {
            x.child(0, 1, 0);
            x.tell(c, 3, 100);
            due.is("mark", x.mark(c, 3, 5 * c), c + 1);
        }
        due.is("same, none is named", x.same(3), 0);
        x.word(39, 1);
        x.same(3);
        // -95 less the mean of 100 - 5 c for c from 0 to 38, which is 5
        due.fraction("the last one is named", x, -100, 1);
        x.word(39, 0);
        x.word(0, 1);
        x.same(3);
        due.fraction("the first one is named", x, 100, 1);
    }

    private static void trials() {
        BloomRooms x = new BloomRooms();
        due.is("least", x.trial(0, -999, 1, false), 1);
        due.is("greatest", x.trial(20, 999, 999, true), 2);
        x.curve(false);
        due.fraction("1998 by 20", x, 999, 10);
        due.is("the printed one", x.curve(true), 0);
        due.is("other ends", x.trial(20, -999, 1, true), 3);
        x.curve(true);
        due.fraction("one week", x, 0, 0);
        for (int i = 4; i <= 20; i++) {
            due.is("trial", x.trial(0, 999, 999, i == 20), i);
            due.is("trials", x.count(7), i);
        }
        due.is("trial 21", x.trial(1, 1, 1, false), -4);
        due.is("trials", x.count(7), 20);
        // printed: 999 at week 20 of size 999, -999 there of size 1, 999 at week 0 of size 999
        due.is("the last one counts", x.curve(true), 1);
        due.fraction("997.002 at 20, 999 at 0", x, -999, 10000);
    }

    private static void keptLaws() {
        BloomRooms x = five();
        for (int c = 0; c < 5; c++) {
            x.tell(c, 0, 50);
            x.tell(c, 1, 50 + 2 * c);
        }
        for (int law = 0; law < 4; law++) {
            Due.say(x, 0, "noise " + law + ";");
            due.is("keep", x.keep(law), 0);
        }
        for (int law = 0; law < 4; law++) {
            due.is("fits", x.fits(law, 0, 1), 1 + law);
        }
        due.is("likely", x.likely(0, 1), 3);
        for (int law = 0; law < 4; law++) {
            BloomRooms y = five();
            y.keep(law);
            due.is("the only one that is kept", y.likely(0, 1), law);
            for (int other = 0; other < 4; other++) {
                due.is("kept or not", y.fits(other, 0, 1), other == law ? 0 : -5);
            }
        }
    }

    /** For each n that is taken. */
    private static void needed() {
        int[] ways = {2, 3, 6, 10, 20, 35, 70, 126, 252, 462, 924, 1716, 3432, 6435, 12870, 24310, 48620};
        BloomRooms x = null;
        for (int n = 2; n <= 40000; n++) {
            if (n % 500 == 2) {
                x = new BloomRooms();
            }
            int rooms = 2;
            while (ways[rooms - 2] < n) {
                rooms++;
            }
            due.is("needed for 1 in " + n, x.needed(n), rooms);
        }
    }

    private static void rows() {
        long[] greatest = {127, 32767, 2147483647L, Long.MAX_VALUE};
        BloomRooms x = new BloomRooms();
        for (int row = 0; row < 4; row++) {
            for (int sort = 0; sort < 4; sort++) {
                due.is("row", x.row(row, sort, 40), 0);
                long most = greatest[sort];
                due.is("the greatest", x.write(row, 0, most), most);
                due.is("the least", x.write(row, 39, -most - 1), -most - 1);
                due.is("one more goes around", x.write(row, 1, most + 1), -most - 1);
                due.is("one less goes around", x.write(row, 38, -most - 2), most);
                due.is("-1", x.write(row, 5, -1), -1);
                due.is("0", x.write(row, 5, 0), 0);
                long all = 0x123456789abcdef0L;
                due.is("cut", x.write(row, 7, all), new long[] {-16, -8464, -1698898192L, all}[sort]);
                due.is("cut", x.write(row, 7, ~all), new long[] {15, 8463, 1698898191L, ~all}[sort]);
            }
        }
    }

    private static void rowsOfEachLength() {
        for (int n = 0; n <= 40; n++) {
            BloomRooms x = new BloomRooms();
            x.room(0, false);
            for (int c = 0; c < n; c++) {
                x.child(0, 1, 0);
            }
            due.is("row", x.row(2, 1, n), 0);
            for (int i = 0; i < n; i++) {
                due.is("write", x.write(2, i, 5 * i), 5 * i);
            }
            due.is("no such number", x.write(2, n, 0), -7);
            due.is("no such number", x.write(2, -1, 0), -7);
            due.is("pour", x.pour(2, 0), n);
            for (int c = 0; c < n; c++) {
                due.is("poured", x.point(c, 0), 5 * c);
            }
            if (n > 0) {
                x.row(2, 1, n - 1);
                due.is("one too few", x.pour(2, 0), -7);
                x.row(2, 1, n);
                for (int v : new int[] {-1, 200, 0}) {
                    x.write(2, n - 1, v);
                    due.is("pour", x.pour(2, 0), n);
                    due.is("poured", x.point(n - 1, 0), v);
                }
                for (int v : new int[] {-2, 201, 32767, -32768}) {
                    x.write(2, n - 1, v);
                    due.is("pour", x.pour(2, 0), -3);
                    due.is("as it was", x.point(n - 1, 0), 0);
                    x.write(2, n - 1, 0);
                    x.write(2, 0, v);
                    due.is("pour", x.pour(2, 0), -3);
                    x.write(2, 0, 0);
                }
            }
            if (n < 40) {
                x.row(2, 1, n + 1);
                due.is("one too many", x.pour(2, 0), n);
            }
        }
    }

    private static void images() {
        BloomRooms x = new BloomRooms();
        for (int i = 0; i < 2; i++) {
            due.is("not made", x.restore(i), -5);
            due.is("image", x.image(i), 0);
            x.year();
        }
        for (int n = 0; n < 3; n++) {
            for (int i = 0; i < 2; i++) {
                due.is("restore", x.restore(i), 0);
                due.is("years", x.count(2), i);
            }
        }
    }

    private static void counts() {
        BloomRooms x = Schools.full();
        int[] full = {18, 40, 6, 3, 0, 24, 40, 20, 400};
        for (int what = 0; what < full.length; what++) {
            due.is("count " + what, x.count(what), full[what]);
        }
        for (int code = 1; code <= 7; code++) {
            due.is("status " + code, x.status(code), 0);
        }
        for (int c = 0; c < 40; c++) {
            x.word(c, 1);
            due.is("gone", x.gone(c), 0);
        }
        due.is("all are named", x.count(9), 40);
        due.is("all are gone", x.count(10), 40);
        x.word(7, 0);
        x.word(8, 2);
        due.is("all but two are named", x.count(9), 38);
        due.is("all are gone", x.count(10), 40);
        x.word(7, 1);
        x.word(8, 1);
        due.is("nobody is there", x.give(2, 0, false), 0);
        due.is("all are named still", x.deal(false, 0, 0), 40);
    }

    /** The 512th call is answered as the first one is. */
    private static void manyCalls() {
        BloomRooms x = new BloomRooms();
        for (int i = 1; i < 512; i++) {
            due.is("call " + i, x.room(-1, false), -3);
        }
        due.is("call 512", x.status(3), 511);
    }
}
