/** Promises 11 to 15: YEARS, TESTS, dealings. */
public final class YearsTest {
    private static final Due due = new Due();

    public static void main(String[] args) {
        years();
        tests();
        noiseFloorAndRoof();
        told();
        dealByChildren();
        dealByRooms();
        dealtByWord();
        roomsWithoutSuchChildren();
        fewerChildrenThanRooms();
        due.end();
    }

    private static int draw(int x) {
        return x >>> 16;
    }

    private static int next(int x) {
        return 1103515245 * x + 12345;
    }

    private static void years() {
        BloomRooms x = new BloomRooms();
        x.room(0, true);
        for (int c = 0; c < 5; c++) {
            x.child(0, 1, 100 + 20 * c);
        }
        Due.say(x, 0, "gift 10;named moves 99;bad moves -99;time gives 99 grows 99;");
        x.word(1, 1);
        x.word(2, 3);
        x.gone(3);
        due.is("grows before", x.of(1, 6), 970);
        due.is("year 1", x.year(), 1);
        due.is("gift alone", x.of(0, 2), 110);
        due.is("400 at most", x.of(1, 2), 400);
        due.is("0 at least", x.of(2, 2), 0);
        due.is("one that is gone", x.of(3, 2), 160);
        due.is("grows after", x.of(1, 6), 480);
        Due.say(x, 0, "");
        for (int y = 2; y <= 6; y++) {
            due.is("year " + y, x.year(), y);
        }
        due.is("year 7", x.year(), -5);
        due.is("years", x.count(2), 6);
        due.is("-5", x.status(5), 1);
        due.is("gift stays", x.of(1, 2), 400);
    }

    private static void tests() {
        BloomRooms x = new BloomRooms();
        x.room(0, false);
        due.is("no one", x.give(0, 1, true), 0);
        for (int c = 0; c < 4; c++) {
            x.child(0, 1, 50 * c);
        }
        due.is("no points", x.point(2, 0), -1);
        due.is("give -1", x.give(-1, 0, false), -2);
        due.is("give 6", x.give(6, 0, false), -2);
        due.is("give 5", x.give(5, 0, false), 4);
        x.gone(1);
        x.year();
        x.tell(1, 0, 7);
        due.is("give", x.give(0, 99, false), 3);
        due.is("one that is gone has none", x.point(1, 0), -1);
        due.is("but keeps the others", x.point(1, 5), 50);
        due.is("points", x.point(3, 0), 150);
        due.is("years of test 0", x.count(20), 1);
        due.is("years of test 5", x.count(25), 0);
        due.is("count 26", x.count(26), -1);
        due.is("count 19", x.count(19), -1);
        due.is("count 11", x.count(11), -1);
        due.is("count -1", x.count(-1), -1);
        due.is("point of no child", x.point(4, 0), -2);
        due.is("point of no test", x.point(0, 6), -2);
        due.is("refused", x.status(2), 4);
    }

    private static void noiseFloorAndRoof() {
        BloomRooms x = new BloomRooms();
        x.room(0, false);
        for (int c = 0; c < 5; c++) {
            x.child(0, 1, 20 + 40 * c);
            x.word(c, 4);
        }
        x.gone(2);
        Due.say(x, 0, "noise 20;marks 50;floor 30;roof 150;");
        for (int seed = -3; seed < 4; seed++) {
            for (int knew = 0; knew < 2; knew++) {
                x.give(1, seed, knew == 1);
                int n = seed;
                for (int c = 0; c < 5; c++) {
                    if (c == 2) {
                        continue;
                    }
                    n = next(n);
                    int points = 20 + 40 * c + draw(n) % 41 - 20 + (knew == 1 ? 50 : 0);
                    due.is("seed " + seed + " child " + c, x.point(c, 1), Math.max(30, Math.min(150, points)));
                }
            }
        }
        x.word(0, 5);
        Due.say(x, 0, "marks 50;");
        x.give(2, 0, true);
        due.is("not marked", x.point(0, 2), 20);
        due.is("marked", x.point(1, 2), 110);
        due.is("no more than 200", x.point(4, 2), 200);
        Due.say(x, 0, "floor 100;roof 60;");
        x.give(2, 0, true);
        due.is("the floor counts after the roof", x.point(4, 2), 100);
    }

    private static void told() {
        BloomRooms x = new BloomRooms();
        x.room(0, false);
        x.child(0, 1, 0);
        due.is("tell", x.tell(0, 3, 0), -1);
        due.is("tell 200", x.tell(0, 3, 200), 0);
        due.is("tell none", x.tell(0, 3, -1), 200);
        due.is("none", x.point(0, 3), -1);
        due.is("tell 201", x.tell(0, 3, 201), -3);
        due.is("tell -2", x.tell(0, 3, -2), -3);
        due.is("tell no child", x.tell(1, 3, 201), -2);
        due.is("tell no test", x.tell(0, 6, 201), -2);
        x.year();
        x.tell(0, 3, 5);
        due.is("years never given", x.count(23), 0);
        x.give(3, 0, false);
        x.year();
        x.tell(0, 3, 5);
        due.is("years stay", x.count(23), 1);
        x.gone(0);
        due.is("tell of one that is gone", x.tell(0, 3, 9), 5);
    }

    private static void dealByChildren() {
        BloomRooms x = new BloomRooms();
        due.is("no rooms", x.deal(false, 41, 0), -3);
        due.is("no rooms", x.deal(false, -1, 0), -3);
        due.is("no rooms", x.deal(true, 0, 0), -5);
        int[] room = new int[20];
        for (int r = 0; r < 4; r++) {
            x.room(0, false);
        }
        for (int c = 0; c < 20; c++) {
            room[c] = c * 7 % 4;
            x.child(room[c], 1, 0);
        }
        x.word(3, 3);
        x.word(4, 1);
        x.gone(5);
        x.word(9, 1);
        x.gone(9);
        for (int many = 0; many <= 40; many += 1 + many) {
            for (int seed = 5; seed < 9; seed++) {
                int named = 1;
                int n = seed;
                boolean[] isNamed = new boolean[20];
                isNamed[9] = true;
                for (int r = 0; r < 4; r++) {
                    int left = 0;
                    for (int c = 0; c < 20; c++) {
                        left += room[c] == r && c != 3 && c != 5 && c != 9 ? 1 : 0;
                    }
                    int open = Math.min(many, left);
                    for (int c = 0; c < 20; c++) {
                        if (room[c] != r || c == 3 || c == 5 || c == 9) {
                            continue;
                        }
                        n = next(n);
                        isNamed[c] = draw(n) % left < open;
                        open -= isNamed[c] ? 1 : 0;
                        named += isNamed[c] ? 1 : 0;
                        left--;
                    }
                }
                due.is("deal " + many + " by " + seed, x.deal(false, many, seed), named);
                for (int c = 0; c < 20; c++) {
                    due.is("word of " + c, x.of(c, 3), c == 3 ? 3 : isNamed[c] ? 1 : 0);
                }
            }
        }
    }

    private static void dealByRooms() {
        BloomRooms x = new BloomRooms();
        for (int r = 0; r < 7; r++) {
            x.room(0, false);
        }
        for (int c = 0; c < 14; c++) {
            x.child(c % 7, 1, 0);
        }
        x.word(2, 5);
        x.gone(3);
        for (int many = 0; many <= 9; many++) {
            int n = 31 * many;
            int open = many;
            int named = 0;
            due.is("deal", x.deal(true, many, n) >= 0 ? 1 : 0, 1);
            for (int r = 0; r < 7; r++) {
                n = next(n);
                boolean isNamed = draw(n) % (7 - r) < open;
                open -= isNamed ? 1 : 0;
                for (int c = r; c < 14; c += 7) {
                    int word = c == 2 ? 5 : c == 3 ? 0 : isNamed ? 1 : 0;
                    named += word == 1 ? 1 : 0;
                    due.is("word of " + c, x.of(c, 3), word);
                }
            }
            due.is("named", x.count(9), named);
            due.is("deal again", x.deal(true, many, 31 * many), named);
        }
    }

    /** Those with no WORD or named are dealt to; each other WORD stays, and takes no DRAW and no place. */
    private static void dealtByWord() {
        for (int word = 0; word <= 5; word++) {
            BloomRooms x = new BloomRooms();
            x.room(0, false);
            for (int c = 0; c < 3; c++) {
                x.child(0, 1, 0);
            }
            boolean dealt = word < 2;
            String with = "with word " + word;
            x.word(0, word);
            due.is(with + " named", x.deal(false, 3, 1), dealt ? 3 : 2);
            due.is(with + " named", x.of(0, 3), dealt ? 1 : word);
            x.word(0, word);
            due.is(with + " not named", x.deal(false, 0, 1), 0);
            due.is(with + " not named", x.of(0, 3), dealt ? 0 : word);
            x.word(0, word);
            due.is(with + " in a named room", x.deal(true, 1, 1), dealt ? 3 : 2);
            due.is(with + " in a named room", x.of(0, 3), dealt ? 1 : word);
            x.word(0, word);
            due.is(with + " in another room", x.deal(true, 0, 1), 0);
            due.is(with + " in another room", x.of(0, 3), dealt ? 0 : word);
            for (int seed = 0; seed < 40; seed++) {
                x.word(0, word);
                x.deal(false, 1, seed);
                int n = seed;
                boolean open = true;
                for (int c = dealt ? 0 : 1; c < 3; c++) {
                    n = next(n);
                    boolean named = open && draw(n) % (3 - c) < 1;
                    open = open && !named;
                    due.is(with + " child " + c + " by " + seed, x.of(c, 3), named ? 1 : 0);
                }
            }
        }
    }

    /** Of all ROOMS so many are named: those without CHILDREN that can be dealt to are among them. */
    private static void roomsWithoutSuchChildren() {
        for (int there = 0; there < 32; there++) {
            for (int many = 0; many <= 5; many++) {
                BloomRooms x = new BloomRooms();
                for (int r = 0; r < 5; r++) {
                    x.room(0, false);
                }
                for (int r = 0; r < 5; r++) {
                    x.child(r, 1, 0);
                    if ((there >> r & 1) == 0) {
                        x.word(r, r % 2 == 0 ? 5 : 0);
                        x.gone(r);
                    }
                }
                int n = 100 * many + there;
                int open = many;
                int named = 0;
                int answer = x.deal(true, many, n);
                for (int r = 0; r < 5; r++) {
                    n = next(n);
                    boolean isNamed = draw(n) % (5 - r) < open;
                    open -= isNamed ? 1 : 0;
                    boolean can = (there >> r & 1) == 1;
                    named += can && isNamed ? 1 : 0;
                    int word = can ? isNamed ? 1 : 0 : r % 2 == 0 ? 5 : 0;
                    due.is("rooms " + there + " many " + many + " child " + r, x.of(r, 3), word);
                }
                due.is("rooms " + there + " many " + many, answer, named);
            }
        }
    }

    /** In each of 18 ROOMS, though there is but one CHILD, or two. */
    private static void fewerChildrenThanRooms() {
        for (int room = 0; room < 18; room++) {
            BloomRooms x = new BloomRooms();
            for (int r = 0; r < 18; r++) {
                x.room(0, false);
            }
            x.child(room, 1, 0);
            due.is("the one in room " + room, x.deal(false, 1, room), 1);
            due.is("not the one in room " + room, x.deal(false, 0, room), 0);
            due.is("all rooms, that of room " + room, x.deal(true, 18, room), 1);
            x.child(17 - room, 1, 0);
            due.is("both", x.deal(false, 1, room), 2);
            due.is("neither", x.deal(true, 0, room), 0);
        }
    }
}
