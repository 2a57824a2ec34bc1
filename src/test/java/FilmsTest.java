/** Promises 25 to 33: FILMS, MARKS, TRIALS. */
public final class FilmsTest {
    private static final Due due = new Due();

    public static void main(String[] args) {
        films();
        hair();
        carried();
        marks();
        same();
        trials();
        curve();
        edges();
        due.end();
    }

    private static void films() {
        BloomRooms x = new BloomRooms();
        due.is("way 3", x.film(3, true, 100), -2);
        due.is("way -1", x.film(-1, true, 0), -2);
        due.is("seen 100", x.film(0, true, 100), -3);
        due.is("seen -1", x.film(0, true, -1), -3);
        for (int i = 1; i <= 24; i++) {
            due.is("film " + i, x.film(i % 3, i % 2 == 0, i % 2 * 99), i);
        }
        due.is("film 25", x.film(0, true, 0), -4);
        due.is("film 25, seen 100", x.film(0, true, 100), -3);
        due.is("films", x.count(5), 24);
        due.is("-4", x.status(4), 1);
    }

    private static void hair() {
        BloomRooms x = new BloomRooms();
        due.is("no films", x.hair(0, 0), 0);
        x.film(1, true, 50);
        due.is("no others", x.hair(1, 0), 0);
        due.is("no others", x.hair(1, 1), 0);
        x.film(1, false, 20);
        x.film(1, false, 60);
        x.film(1, false, 50);
        x.film(2, false, 99);
        x.film(2, true, 1);
        due.is("hair", x.hair(1, 0), 1);
        due.fraction("50 less 130 by 3", x, 20, 3);
        due.is("blind", x.hair(1, 1), 1);
        due.fraction("three of four", x, 3, 4);
        x.hair(2, 0);
        due.fraction("below 0", x, -98, 1);
        due.is("hair of way 3", x.hair(3, 0), -2);
        due.is("hair of way -1", x.hair(-1, 0), -2);
        due.is("hair 2", x.hair(1, 2), -2);
        due.is("hair -1", x.hair(1, -1), -2);
        due.fraction("the fraction stays", x, -98, 1);
    }

    private static void carried() {
        BloomRooms x = new BloomRooms();
        due.is("no hair", x.carried(), 0);
        due.fraction("no hair", x, 0, 0);
        x.film(0, true, 7);
        due.is("no hair yet", x.carried(), 0);
        x.film(0, false, 4);
        due.is("hair without grows", x.carried(), 1);
        due.fraction("hair without grows", x, 0, 1);
        Due.say(x, 0, "warmth gives 1 grows 50;time gives 1 grows 10;harder gives 1 grows 7;");
        x.carried();
        due.fraction("3 times 50 by 100", x, 3, 2);
        x.film(1, false, 10);
        x.film(1, true, 3);
        x.film(2, true, 9);
        x.carried();
        due.fraction("less 7 by 10", x, 4, 5);

        x.room(0, false);
        for (int c = 0; c < 10; c++) {
            x.child(0, 1, 0);
            x.tell(c, 0, 50);
            x.tell(c, 1, 50);
        }
        due.is("no effect", x.enough(0, 1), -1);
        for (int c = 0; c < 5; c++) {
            x.word(c, 1);
        }
        x.tell(0, 1, 54);
        due.is("4 by 5 are enough", x.enough(0, 1), 1);
        x.tell(1, 1, 51);
        due.is("but not for 1", x.enough(0, 1), 0);
        due.fraction("the fraction stays", x, 4, 5);
        due.is("for less than 0", x.enough(1, 0), 1);
        Due.say(x, 0, "warmth gives 1 grows 50;time gives 1 grows 10;harder gives 1 grows 7;floor 54;");
        due.is("ends count too", x.enough(0, 1), 0);
        due.is("no such test", x.enough(6, 6), -2);
        due.is("no such test", x.enough(0, -1), -2);
        due.is("a is b", x.enough(0, 0), -3);
        BloomRooms y = new BloomRooms();
        due.is("neither", y.enough(0, 1), -1);
    }

    private static void marks() {
        BloomRooms x = new BloomRooms();
        x.room(0, false);
        x.child(0, 1, 0);
        due.is("no child", x.mark(1, 0, 201), -2);
        due.is("no test", x.mark(0, 6, 201), -2);
        due.is("201", x.mark(0, 0, 201), -3);
        due.is("-1", x.mark(0, 0, -1), -3);
        for (int i = 1; i <= 40; i++) {
            due.is("mark " + i, x.mark(0, i % 6, 5 * i), i);
        }
        due.is("mark 41", x.mark(0, 0, 0), -4);
        due.is("mark 41 of 201", x.mark(0, 0, 201), -3);
        due.is("marks", x.count(6), 40);
    }

    private static void same() {
        BloomRooms x = new BloomRooms();
        x.room(0, false);
        for (int c = 0; c < 5; c++) {
            x.child(0, 1, 0);
            x.tell(c, 2, 100 + c);
        }
        x.word(0, 1);
        x.word(1, 1);
        x.word(2, 3);
        due.is("no marks", x.same(2), 0);
        x.mark(0, 2, 90);
        due.is("no others", x.same(2), 0);
        x.mark(1, 2, 99);
        x.mark(2, 2, 102);
        x.mark(3, 2, 0);
        x.mark(3, 1, 7);
        x.mark(3, 2, 104);
        x.gone(3);
        // 10 and 2 of the named ones, 0 and -1 of the others
        due.is("same", x.same(2), 1);
        due.fraction("same", x, 13, 2);
        x.tell(3, 2, -1);
        x.same(2);
        due.fraction("without points", x, 6, 1);
        Due.say(x, 1, "out if not told;");
        x.same(2);
        due.fraction("rules do not count", x, 6, 1);
        x.tell(0, 2, 0);
        x.mark(0, 2, 0);
        x.same(2);
        due.fraction("0 is a mark and points", x, 1, 1);
        due.is("another test", x.same(1), 0);
        due.is("test 6", x.same(6), -2);
        due.is("test -1", x.same(-1), -2);
    }

    private static void trials() {
        BloomRooms x = new BloomRooms();
        due.is("weeks -1", x.trial(-1, 0, 1, false), -3);
        due.is("weeks 21", x.trial(21, 0, 1, false), -3);
        due.is("effect -1000", x.trial(0, -1000, 1, false), -3);
        due.is("effect 1000", x.trial(0, 1000, 1, false), -3);
        due.is("size 0", x.trial(0, 0, 0, false), -3);
        due.is("size 1000", x.trial(0, 0, 1000, false), -3);
        due.is("no trials", x.curve(false), 0);
        for (int i = 1; i <= 20; i++) {
            due.is("trial " + i, x.trial(i, 999 - 1998 * (i % 2), i % 2 * 998 + 1, false), i);
        }
        due.is("trial 21", x.trial(0, 0, 1, true), -4);
        due.is("trial 21 of size 0", x.trial(0, 0, 0, true), -3);
        due.is("trials", x.count(7), 20);
    }

    private static void curve() {
        BloomRooms x = new BloomRooms();
        x.trial(3, 100, 7, true);
        due.is("one trial", x.curve(true), 0);
        x.trial(3, 50, 9, true);
        due.is("the same weeks", x.curve(true), 0);
        due.fraction("the same weeks", x, 0, 0);
        x.trial(5, 0, 2, false);
        due.is("printed ones alone", x.curve(true), 0);
        due.is("all", x.curve(false), 1);
        // 18 * 3450 - 58 * 1150 over 18 * 194 - 58 * 58
        due.fraction("all", x, -575, 16);
        due.is("thousandths", x.sure(), -35937);
        BloomRooms y = new BloomRooms();
        y.trial(0, -999, 999, false);
        y.trial(20, 999, 999, true);
        y.curve(false);
        due.fraction("steep", y, 999, 10);
    }

    private static void edges() {
        BloomRooms x = new BloomRooms();
        due.is("no trials", x.edge(false, true), 0);
        x.trial(1, 10, 1, true);
        x.trial(2, 20, 1, true);
        due.is("two", x.edge(false, true), 0);
        x.trial(4, 0, 1, false);
        // without the first -10, without the second -10 by 3, without the third 10
        due.is("most", x.edge(false, true), 1);
        due.fraction("most", x, 10, 1);
        due.is("least", x.edge(false, false), 1);
        due.fraction("least", x, -10, 1);
        due.is("printed", x.edge(true, false), 0);
        due.fraction("printed", x, 0, 0);
        x.trial(4, 1, 1, true);
        x.edge(true, true);
        due.fraction("printed, most", x, 10, 1);
        x.edge(true, false);
        due.fraction("printed, least", x, -19, 2);
        BloomRooms y = new BloomRooms();
        y.trial(0, 0, 1, false);
        y.trial(1, -3, 1, false);
        y.trial(0, 2, 1, false);
        // without the second there is none
        y.edge(false, true);
        due.fraction("those with none aside", y, -3, 1);
        y.edge(false, false);
        due.fraction("those with none aside", y, -5, 1);
        BloomRooms z = new BloomRooms();
        for (int i = 0; i < 20; i++) {
            z.trial(i + 1, i == 7 ? 999 : -999 + i, 999 - i, false);
        }
        z.edge(false, true);
        long upper = z.upper();
        long lower = z.lower();
        due.is("close numbers", z.edge(false, false), 1);
        due.is("most is more", Math.multiplyHigh(upper, z.lower()) >= Math.multiplyHigh(z.upper(), lower) ? 1 : 0, 1);
    }
}
