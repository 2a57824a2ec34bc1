/** Promises 1 to 7, and what count tells of ROOMS and CHILDREN. */
public final class ChildrenTest {
    private static final Due due = new Due();

    public static void main(String[] args) {
        nobodyAtFirst();
        rooms();
        children();
        words();
        goneOnes();
        holdAndGrowth();
        forgetting();
        due.end();
    }

    private static void nobodyAtFirst() {
        BloomRooms x = new BloomRooms();
        for (int what = 0; what <= 10; what++) {
            due.is("new count " + what, x.count(what), 0);
        }
        for (int what = 20; what <= 25; what++) {
            due.is("new count " + what, x.count(what), 0);
        }
        for (int what = 1; what <= 7; what++) {
            due.is("new status " + what, x.status(what), 0);
        }
        due.is("new fault", x.fault(0), 0);
        due.is("new fault place", x.fault(1), -1);
        due.fraction("new", x, 0, 0);
        due.is("new sure", x.sure(), 0);
    }

    private static void rooms() {
        BloomRooms x = new BloomRooms();
        due.is("room -1", x.room(-1, false), -3);
        due.is("room 21", x.room(21, true), -3);
        for (int r = 0; r < 18; r++) {
            due.is("room " + r, x.room(r % 2 * 20, r % 3 == 0), r);
        }
        due.is("room 18", x.room(0, false), -4);
        due.is("room 18 with wrong weeks", x.room(21, false), -3);
        due.is("rooms", x.count(0), 18);
        due.is("refused by -3", x.status(3), 3);
        due.is("refused by -4", x.status(4), 1);
        due.is("last room", x.child(17, 1, 0), 0);
        due.is("no room 18", x.child(18, 1, 0), -2);
    }

    private static void children() {
        BloomRooms x = new BloomRooms();
        due.is("no room", x.child(0, 1, 0), -2);
        x.room(0, false);
        due.is("room -1", x.child(-1, 0, 0), -2);
        due.is("grade 0", x.child(0, 0, 0), -3);
        due.is("grade 7", x.child(0, 7, 0), -3);
        due.is("gift -1", x.child(0, 1, -1), -3);
        due.is("gift 201", x.child(0, 1, 201), -3);
        for (int c = 0; c < 40; c++) {
            due.is("child " + c, x.child(0, 1 + c % 6, 5 * c), c);
        }
        due.is("child 40", x.child(0, 1, 0), -4);
        due.is("child 40, wrong grade", x.child(0, 9, 0), -3);
        due.is("child 40, no room", x.child(1, 9, 0), -2);
        due.is("children", x.count(1), 40);
        for (int c = 0; c < 40; c++) {
            due.is("room of", x.of(c, 0), 0);
            due.is("grade of", x.of(c, 1), 1 + c % 6);
            due.is("gift of", x.of(c, 2), 5 * c);
            due.is("word of", x.of(c, 3), 0);
            due.is("there", x.of(c, 4), 1);
            due.is("hold of", x.of(c, 5), 0);
            due.is("grows of", x.of(c, 6), 0);
        }
        due.is("of no child", x.of(40, 0), -1000);
        due.is("of child -1", x.of(-1, 0), -1000);
        due.is("of what 7", x.of(0, 7), -1000);
        due.is("of what -1", x.of(0, -1), -1000);
        due.is("given no child", x.given(40, 0), -1000);
        due.is("given way 3", x.given(0, 3), -1000);
        due.is("given way -1", x.given(0, -1), -1000);
        due.is("all counted as -2", x.status(2), 10);
    }

    private static void words() {
        BloomRooms x = new BloomRooms();
        x.room(0, false);
        x.child(0, 1, 0);
        for (int word = 1; word <= 5; word++) {
            due.is("word " + word, x.word(0, word), word - 1);
            due.is("word of", x.of(0, 3), word);
        }
        due.is("word 0", x.word(0, 0), 5);
        due.is("word -1", x.word(0, -1), -3);
        due.is("word 6", x.word(0, 6), -3);
        due.is("word of no child", x.word(1, 9), -2);
        due.is("word stays", x.of(0, 3), 0);
        x.word(0, 1);
        due.is("named", x.count(9), 1);
        x.gone(0);
        due.is("a word of one that is gone", x.word(0, 2), 1);
    }

    private static void goneOnes() {
        BloomRooms x = new BloomRooms();
        x.room(0, false);
        x.child(0, 1, 0);
        x.child(0, 1, 0);
        due.is("gone 2", x.gone(2), -2);
        due.is("gone -1", x.gone(-1), -2);
        due.is("gone 1", x.gone(1), 0);
        due.is("gone 1 again", x.gone(1), -5);
        due.is("there", x.of(0, 4), 1);
        due.is("not there", x.of(1, 4), 0);
        due.is("how many are gone", x.count(10), 1);
        x.word(0, 1);
        due.is("the first is named", x.count(9), 1);
        x.word(0, 0);
        x.word(1, 1);
        due.is("one that is gone is named", x.count(9), 1);
        x.gone(0);
        due.is("both are gone", x.count(10), 2);
        due.is("children", x.count(1), 2);
        due.is("-5", x.status(5), 1);
    }

    private static void holdAndGrowth() {
        BloomRooms x = new BloomRooms();
        x.room(3, false);
        x.room(11, false);
        x.child(0, 1, 0);
        x.child(1, 1, 0);
        Due.say(x, 0, "named moves 33;true moves 7;bad moves - 33;heard moves 40;known 10;hears 50;"
                + "warmth gives 7 grows 33;time gives 9 grows 77;harder gives 3 grows 99;");
        x.word(0, 1);
        // 33 times 70 by 100
        due.is("hold", x.of(0, 5), 23);
        due.is("warmth", x.given(0, 0), 16);
        due.is("time", x.given(0, 1), 20);
        due.is("harder", x.given(0, 2), 6);
        // 5.28, 15.4, 5.94: each by itself towards 0
        due.is("grows", x.of(0, 6), 25);
        x.word(0, 3);
        due.is("bad hold", x.of(0, 5), -23);
        due.is("bad warmth", x.given(0, 0), -16);
        due.is("bad time", x.given(0, 1), -20);
        due.is("bad grows", x.of(0, 6), -25);
        x.word(0, 2);
        due.is("true hold", x.of(0, 5), 4);
        x.word(0, 4);
        due.is("marked hold", x.of(0, 5), 0);
        x.word(0, 5);
        due.is("heard hold", x.of(0, 5), 28);
        // 19, 25, 8 are given: 6.27, 19.25, 7.92 of these, and 50
        due.is("heard grows", x.of(0, 6), 82);
        x.word(1, 1);
        due.is("hold of one known for 11 weeks", x.of(1, 5), 0);
    }

    private static void forgetting() {
        BloomRooms x = new BloomRooms();
        x.room(0, true);
        x.room(0, false);
        x.child(0, 1, 0);
        x.child(1, 1, 0);
        Due.say(x, 0, "named moves 15;bad moves - 15;");
        x.word(0, 1);
        x.word(1, 1);
        due.is("before a year", x.of(0, 5), 15);
        x.year();
        due.is("forgotten", x.of(0, 5), 7);
        due.is("not forgotten", x.of(1, 5), 15);
        x.word(0, 3);
        due.is("forgotten bad", x.of(0, 5), -7);
        x.year();
        due.is("forgotten no more than that", x.of(0, 5), -7);
    }
}
