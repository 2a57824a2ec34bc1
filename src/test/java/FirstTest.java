/** What is there at first: in a new object, of a new ROOM, CHILD, TEST, LAW, ROW; and what is there no longer. */
public final class FirstTest {
    private static final Due due = new Due();

    public static void main(String[] args) {
        newObject();
        newObjectRead();
        newObjectRefusals();
        firstFractions();
        newChild();
        newLaw();
        newTest();
        newRow();
        goneChild();
        inPlaceOfEarlierOnes();
        noneInPlaceOfAFraction();
        laterLinesInPlaceOfEarlierOnes();
        due.end();
    }

    private static void newObject() {
        BloomRooms x = new BloomRooms();
        due.is("NONE", BloomRooms.NONE, -1);
        for (int what = 0; what <= 10; what++) {
            due.is("count " + what, x.count(what), 0);
        }
        for (int test = 0; test < 6; test++) {
            due.is("years of test " + test, x.count(20 + test), 0);
        }
        for (int code = 1; code <= 7; code++) {
            due.is("status " + code, x.status(code), 0);
        }
        due.is("fault", x.fault(0), 0);
        due.is("place", x.fault(1), -1);
        due.fraction("fraction", x, 0, 0);
        due.is("sure", x.sure(), 0);
        due.is("looks", x.looks(0), 0);
        due.is("best", x.looks(1), -1);
    }

    private static void newObjectRead() {
        for (int a = 0; a < 6; a++) {
            BloomRooms x = new BloomRooms();
            for (int b = 0; b < 6; b++) {
                if (a == b) {
                    continue;
                }
                for (int what = 0; what < 3; what++) {
                    due.is("read " + a + b + what, x.read(a, b, what), 0);
                }
                for (int what = 0; what < 5; what++) {
                    due.is("effect " + a + b + what, x.effect(a, b, what), 0);
                    due.fraction("effect " + a + b + what, x, 0, 0);
                }
                due.is("mean", x.mean(0, a, b), -1000000);
                due.is("grew", x.grew(0, a, b), -1000);
                due.is("enough", x.enough(a, b), -1);
                due.is("likely", x.likely(a, b), -1);
                due.is("say", x.say(a, b), 0);
            }
            due.is("same", x.same(a), 0);
            due.is("a test given to nobody", x.give(a, 1, true), 0);
        }
        BloomRooms x = new BloomRooms();
        due.is("paid", x.paid(), 0);
        for (int way = 0; way < 3; way++) {
            due.is("hair", x.hair(way, 0), 0);
            due.is("blind", x.hair(way, 1), 0);
        }
        due.is("carried", x.carried(), 0);
        for (int n = 0; n < 4; n++) {
            due.is("curve", x.curve(n % 2 == 0), 0);
            due.is("edge", x.edge(n % 2 == 0, n < 2), 0);
            due.fraction("edge", x, 0, 0);
        }
        due.is("a year of nobody", x.year(), 1);
    }

    private static void newObjectRefusals() {
        BloomRooms x = new BloomRooms();
        due.is("no child", x.of(0, 0), -1000);
        due.is("no child", x.given(0, 0), -1000);
        due.is("no child", x.word(0, 0), -2);
        due.is("no child", x.gone(0), -2);
        due.is("no child", x.point(0, 0), -2);
        due.is("no child", x.tell(0, 0, 0), -2);
        due.is("no child", x.mark(0, 0, 0), -2);
        due.is("no room", x.child(0, 1, 0), -2);
        due.is("no rooms", x.deal(true, 0, 0), -5);
        due.is("no rooms", x.deal(false, 0, 0), -5);
        for (int law = 0; law < 4; law++) {
            due.is("law " + law + " isn't kept", x.fits(law, 0, 1), -5);
        }
        for (int row = 0; row < 4; row++) {
            due.is("row " + row + " is missing", x.write(row, 0, 0), -6);
            due.is("row " + row + " is missing", x.pour(row, 0), -6);
        }
        due.is("no image", x.restore(0), -5);
        due.is("no image", x.restore(1), -5);
        due.is("the tape is empty", x.text(0, 1), -3);
        due.is("the tape is empty", x.text(1, 1), -3);
        int[] counted = {0, 0, 8, 2, 0, 8, 8, 0};
        for (int code = 1; code <= 7; code++) {
            due.is("status " + code, x.status(code), counted[code]);
        }
    }

    private static BloomRooms grown() {
        BloomRooms x = new BloomRooms();
        x.room(0, false);
        for (int c = 0; c < 2; c++) {
            x.child(0, 1, 0);
            x.tell(c, 0, 50);
            x.tell(c, 1, 60 - c);
        }
        x.word(0, 1);
        return x;
    }

    /** Each call that makes a FRACTION, as the first one of an object that does. */
    private static void firstFractions() {
        int[] upper = {1, 1, 0, 1, 0};
        int[] lower = {1, 2, 0, 1, 1};
        for (int what = 0; what < 5; what++) {
            BloomRooms x = grown();
            due.is("effect " + what, x.effect(0, 1, what), lower[what] > 0 ? 1 : 0);
            due.fraction("effect " + what, x, upper[what], lower[what]);
        }
        BloomRooms x = grown();
        due.is("paid", x.paid(), 1);
        due.fraction("paid", x, 1, 2);
        for (int what = 0; what < 2; what++) {
            x = new BloomRooms();
            x.film(2, true, 3);
            x.film(2, false, 2);
            due.is("hair " + what, x.hair(2, what), 1);
            due.fraction("hair " + what, x, 1, 1 + what);
        }
        x = new BloomRooms();
        x.film(2, true, 3);
        x.film(2, false, 2);
        due.is("carried", x.carried(), 1);
        due.fraction("carried without grows", x, 0, 1);
        x = grown();
        x.film(2, true, 3);
        x.film(2, false, 2);
        due.is("enough", x.enough(0, 1), 0);
        due.fraction("enough makes none", x, 0, 0);
        due.is("say", x.say(0, 1), 4);
        due.fraction("say makes none", x, 0, 0);
        due.is("best", x.looks(1), 1);
        due.fraction("looks make none", x, 0, 0);
        due.is("sure without one", x.sure(), 0);
        x.mark(0, 0, 40);
        x.mark(1, 0, 41);
        due.is("same", x.same(0), 1);
        due.fraction("same", x, 1, 1);
        for (int n = 0; n < 3; n++) {
            x = new BloomRooms();
            x.trial(0, 0, 1, false);
            x.trial(1, 5, 1, false);
            x.trial(1, 5, 1, false);
            due.is("curve", n == 0 ? x.curve(false) : x.edge(false, n == 1), 1);
            due.fraction("curve", x, 5, 1);
        }
    }

    private static void newChild() {
        BloomRooms x = new BloomRooms();
        x.room(20, true);
        x.room(0, false);
        Due.say(x, 0, "named moves 9;true moves 8;bad moves 7;marked moves 6;heard moves 5;hears 50;"
                + "warmth gives 50 grows 50;");
        x.give(0, 1, true);
        x.child(1, 6, 7);
        int[] of = {1, 6, 7, 0, 1, 0, 0};
        for (int what = 0; what < 7; what++) {
            due.is("of, what " + what, x.of(0, what), of[what]);
        }
        for (int way = 0; way < 3; way++) {
            due.is("given by way " + way, x.given(0, way), 0);
        }
        for (int test = 0; test < 6; test++) {
            due.is("points in test " + test, x.point(0, test), -1);
        }
        due.is("named", x.count(9), 0);
        due.is("gone", x.count(10), 0);
    }

    /** Without a LAW all is 0, but the roof, which is 200; and so it is behind an empty one. */
    private static void newLaw() {
        for (int empty = 0; empty < 2; empty++) {
            BloomRooms x = new BloomRooms();
            x.room(0, false);
            x.child(0, 1, 0);
            x.child(0, 1, 100);
            x.child(0, 1, 200);
            if (empty == 1) {
                Due.say(x, 0, "named moves 5;heard moves 5;warmth gives 50 grows 50;known 5;gift 5;hears 5;marks 5;"
                        + "noise 5;floor 5;roof 150;");
                due.is("the empty law", Due.say(x, 0, ""), 0);
                due.is("no lines", x.count(3), 0);
            }
            for (int word = 0; word <= 5; word++) {
                x.word(1, word);
                due.is("hold by word " + word, x.of(1, 5), 0);
                due.is("grows by word " + word, x.of(1, 6), 0);
            }
            x.word(1, 4);
            for (int seed = 0; seed < 3; seed++) {
                x.give(0, seed, true);
                due.is("no floor", x.point(0, 0), 0);
                due.is("no noise, no marks", x.point(1, 0), 100);
                due.is("a roof of 200", x.point(2, 0), 200);
            }
            x.word(1, 5);
            x.year();
            due.is("no gift", x.of(0, 2), 0);
            due.is("hears nothing", x.of(1, 2), 100);
            x.give(1, 0, false);
            due.is("ends at 0 and at 200", x.read(0, 1, 2), 2);
            x.tell(0, 1, 1);
            x.tell(0, 0, 1);
            due.is("1 is no end", x.read(0, 1, 2), 1);
            x.tell(2, 0, 199);
            x.tell(2, 1, 199);
            due.is("199 is no end", x.read(0, 1, 2), 0);
            due.is("no rule", x.read(0, 1, 0), 3);
        }
        eachLineAlone();
    }

    /** One LINE alone: what the others would say is 0, or 200 for the roof. */
    private static void eachLineAlone() {
        BloomRooms x = new BloomRooms();
        x.room(20, true);
        x.child(0, 1, 200);
        for (int word = 1; word <= 5; word++) {
            x.word(0, word);
            Due.say(x, 0, new String[] {"named", "true", "bad", "marked", "heard"}[word - 1] + " moves 99;");
            due.is("known is 0", x.of(0, 5), 99);
            due.is("no way gives", x.given(0, 0) + x.given(0, 1) + x.given(0, 2), 0);
            due.is("no way grows, hears is 0", x.of(0, 6), 0);
        }
        Due.say(x, 0, "heard moves 10;time gives 20 grows 10;");
        due.is("time alone", x.given(0, 0) + x.given(0, 2), 0);
        due.is("time alone", x.of(0, 6), 2);
        Due.say(x, 0, "hears 7;");
        due.is("hears alone", x.of(0, 6), 7);
        x.word(0, 4);
        x.give(0, 5, true);
        due.is("no marks, no noise, no floor, a roof of 200", x.point(0, 0), 200);
        Due.say(x, 0, "floor 3;");
        x.give(0, 5, true);
        due.is("a roof of 200 above a floor", x.point(0, 0), 200);
        x.child(0, 1, 0);
        Due.say(x, 0, "roof 150;");
        x.give(0, 5, true);
        due.is("a roof", x.point(0, 0), 150);
        due.is("no floor below a roof", x.point(1, 0), 0);
    }

    private static void newTest() {
        BloomRooms x = new BloomRooms();
        x.room(0, false);
        x.child(0, 1, 30);
        x.year();
        x.year();
        for (int test = 0; test < 6; test++) {
            due.is("years of test " + test, x.count(20 + test), 0);
            due.is("told", x.tell(0, test, 5), -1);
            due.is("years of a test that was told", x.count(20 + test), 0);
        }
        x.row(0, 0, 1);
        x.pour(0, 3);
        due.is("years of a test that was poured", x.count(23), 0);
        x.give(3, 0, false);
        due.is("years of a test that was given", x.count(23), 2);
        due.is("and of no other one", x.count(22) + x.count(24), 0);
        x.year();
        x.tell(0, 3, 5);
        x.pour(0, 3);
        due.is("they stay", x.count(23), 2);
        x.give(3, 0, false);
        due.is("given again", x.count(23), 3);
    }

    private static void newRow() {
        for (int sort = 0; sort < 4; sort++) {
            BloomRooms x = new BloomRooms();
            x.room(0, false);
            for (int c = 0; c < 40; c++) {
                x.child(0, 1, 0);
            }
            due.is("row", x.row(sort, sort, 40), 0);
            due.is("poured", x.pour(sort, 2), 40);
            for (int c = 0; c < 40; c++) {
                due.is("0 at first", x.point(c, 2), 0);
                x.write(sort, c, 100);
            }
            due.is("in its place", x.row(sort, 3 - sort, 40), 0);
            x.pour(sort, 2);
            for (int c = 0; c < 40; c++) {
                due.is("0 again", x.point(c, 2), 0);
            }
            due.is("a shorter one in its place", x.row(sort, 0, 39), 0);
            due.is("too short", x.pour(sort, 2), -7);
            due.is("no number 39", x.write(sort, 39, 0), -7);
            due.is("one of none in its place", x.row(sort, 1, 0), 0);
            due.is("no number 0", x.write(sort, 0, 0), -7);
            due.is("a longer one in its place", x.row(sort, 2, 40), 0);
            due.is("0 again", x.write(sort, 39, 1L << 31), -(1L << 31));
        }
    }

    /** One that is GONE doesn't grow, is given nothing and dealt nothing; what it has stays, and is read. */
    private static void goneChild() {
        BloomRooms x = new BloomRooms();
        x.room(0, false);
        for (int c = 0; c < 4; c++) {
            x.child(0, 1, 50);
        }
        Due.say(x, 0, "gift 5;named moves 20;");
        due.is("all are given a test", x.give(0, 1, false), 4);
        x.word(1, 1);
        due.is("gone", x.gone(1), 0);
        due.is("gone", x.gone(2), 0);
        due.is("how many", x.count(10), 2);
        due.is("still a child", x.count(1), 4);
        due.is("its points stay", x.point(1, 0), 50);
        due.is("its word stays", x.of(1, 3), 1);
        due.is("what is held of it stays", x.of(1, 5), 20);
        x.year();
        due.is("it doesn't grow", x.of(1, 2), 50);
        due.is("others do", x.of(0, 2), 55);
        due.is("two are given a test", x.give(1, 1, false), 2);
        due.is("it has none", x.point(1, 1), -1);
        x.tell(1, 1, 70);
        x.tell(2, 1, 60);
        due.is("it is read", x.read(0, 1, 0), 4);
        due.is("as a named one", x.read(0, 1, 1), 1);
        due.is("it grew", x.grew(1, 0, 1), 20);
        due.is("all that are there are named, and it is", x.deal(false, 40, 1), 3);
        due.is("not named", x.of(2, 3), 0);
        due.is("none that is there is named, but it is", x.deal(false, 0, 1), 1);
        due.is("by rooms, too", x.deal(true, 1, 1), 3);
        due.is("by rooms, too", x.deal(true, 0, 1), 1);
        x.mark(1, 0, 40);
        x.mark(2, 0, 50);
        due.is("it may have marks", x.same(0), 1);
        due.fraction("it may have marks", x, 10, 1);
        due.is("a word is told of it", x.word(2, 3), 0);
        due.is("a child was told bad", x.say(0, 1), 1);
    }

    private static void inPlaceOfEarlierOnes() {
        BloomRooms x = new BloomRooms();
        x.room(0, false);
        x.child(0, 1, 40);
        x.child(0, 2, 60);
        x.give(0, 1, false);
        x.gone(0);
        due.is("one is given it again", x.give(0, 1, false), 1);
        due.is("what was in it is gone", x.point(0, 0), -1);
        x.gone(1);
        due.is("none is", x.give(0, 1, false), 0);
        due.is("what was in it is gone", x.point(1, 0), -1);
        x.tell(0, 0, 5);
        due.is("told", x.tell(0, 0, 6), 5);
        due.is("told none", x.tell(0, 0, -1), 6);
        due.is("none", x.point(0, 0), -1);
        Due.say(x, 1, "out if told;out if grade 1;");
        due.is("two rules", x.count(4), 2);
        Due.say(x, 1, "out if grade 2;");
        due.is("one rule in their place", x.count(4), 1);
        x.tell(0, 0, 5);
        x.tell(0, 1, 5);
        due.is("the earlier ones count no more", x.read(0, 1, 0), 1);
        Due.say(x, 1, "");
        due.is("none", x.count(4), 0);
        Due.say(x, 0, "named moves 5;gift 7;roof 10;");
        x.keep(2);
        Due.say(x, 0, "true moves 6;");
        due.is("one line in their place", x.count(3), 1);
        x.word(0, 1);
        due.is("the earlier line counts no more", x.of(0, 5), 0);
        due.is("a kept law foretells 0 without years", x.fits(2, 0, 1), 1);
        due.is("words", x.word(0, 3), 1);
        due.is("words", x.word(0, 0), 3);
        x.effect(0, 1, 0);
        due.fraction("0 over 0 in place of another one", x, 0, 0);
        x.trial(0, 0, 1, true);
        x.trial(1, 1, 1, true);
        x.curve(true);
        due.fraction("a fraction", x, 1, 1);
        due.is("none in its place", x.effect(0, 1, 1), 0);
        due.fraction("none in its place", x, 0, 0);
        due.is("sure of none", x.sure(), 0);
        x.image(0);
        x.year();
        x.image(0);
        x.year();
        x.restore(0);
        due.is("the later image", x.count(2), 1);
        x.restore(0);
        due.is("the image stays", x.count(2), 1);
    }

    /** What is 0 over 0 is the FRACTION then, whatever it was before. */
    private static void noneInPlaceOfAFraction() {
        BloomRooms x = new BloomRooms();
        x.trial(0, 0, 1, false);
        x.trial(1, 7, 1, false);
        for (int n = 0; n < 15; n++) {
            due.is("one", x.curve(false), 1);
            due.fraction("one", x, 7, 1);
            due.is("none, " + n, none(x, n), 0);
            due.fraction("none, " + n, x, 0, 0);
            due.is("none, " + n, x.sure(), 0);
        }
    }

    private static int none(BloomRooms x, int n) {
        switch (n) {
            case 5:
                return x.paid();
            case 6:
            case 7:
            case 8:
                return x.hair(n - 6, 0);
            case 9:
                return x.hair(0, 1);
            case 10:
                return x.carried();
            case 11:
                return x.same(0);
            case 12:
                return x.curve(true);
            case 13:
            case 14:
                return x.edge(false, n == 13);
            default:
                return x.effect(0, 1, n);
        }
    }

    /** Each LINE counts in place of all earlier ones of its kind, and of no other kind. */
    private static void laterLinesInPlaceOfEarlierOnes() {
        String[] kinds = {"named", "true", "bad", "marked", "heard"};
        BloomRooms x = new BloomRooms();
        x.room(1, false);
        x.child(0, 1, 100);
        StringBuilder law = new StringBuilder();
        for (int n = 1; n <= 3; n++) {
            for (int k = 0; k < 5; k++) {
                law.append(kinds[k]).append(" moves ").append(10 * n + k).append(";");
            }
        }
        due.is("fifteen lines", Due.say(x, 0, law.toString()), 15);
        for (int k = 0; k < 5; k++) {
            x.word(0, 1 + k);
            due.is(kinds[k], x.of(0, 5), 30 + k);
        }
        Due.say(x, 0, "named moves 50;known 99;known 10;time gives 9 grows 90;harder gives 7 grows 10;warmth gives 5 "
                + "grows 50;time gives 20 grows 10;gift 9;hears 9;gift 2;hears 4;");
        x.word(0, 1);
        due.is("known", x.of(0, 5), 45);
        due.is("warmth", x.given(0, 0), 22);
        due.is("time", x.given(0, 1), 90);
        due.is("harder", x.given(0, 2), 31);
        due.is("11 and 9 and 3", x.of(0, 6), 23);
        x.word(0, 5);
        due.is("hears", x.of(0, 6), 4);
        x.year();
        due.is("gift and hears", x.of(0, 2), 106);
        Due.say(x, 0, "noise 20;marks 50;floor 150;roof 0;floor 0;noise 0;marks 7;roof 110;");
        x.word(0, 4);
        x.give(0, 3, false);
        due.is("no noise, no floor", x.point(0, 0), 106);
        x.give(0, 3, true);
        due.is("marks and a roof", x.point(0, 0), 110);
        Due.say(x, 0, "marks 50;marks 3;floor 111;roof 10;");
        x.give(0, 3, true);
        due.is("a floor", x.point(0, 0), 111);
        Due.say(x, 0, "marks 50;marks 3;");
        x.give(0, 3, true);
        due.is("marks", x.point(0, 0), 109);
    }
}
