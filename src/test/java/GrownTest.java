/** Promises 16 to 24: what was READ, EFFECT and ANEW, LOOKS and what is PAID for them. */
public final class GrownTest {
    private static final Due due = new Due();

    public static void main(String[] args) {
        readOnes();
        effects();
        anewInOneRoom();
        anewByRoom();
        manyChildren();
        roomByRoom();
        ends();
        looks();
        refused();
        due.end();
    }

    /** Children of one room, from 100 in test 0 to 100 and more in test 1; the first ones are named. */
    private static BloomRooms grown(int named, int... more) {
        BloomRooms x = new BloomRooms();
        x.room(0, false);
        addRoom(x, 0, named, more);
        return x;
    }

    private static void addRoom(BloomRooms x, int room, int named, int... more) {
        for (int i = 0; i < more.length; i++) {
            int c = x.child(room, 1, 0);
            x.tell(c, 0, 100);
            x.tell(c, 1, 100 + more[i]);
            x.word(c, i < named ? 1 : 0);
        }
    }

    private static void readOnes() {
        BloomRooms x = grown(2, 5, 6, 7, 8);
        due.is("read", x.read(0, 1, 0), 4);
        due.is("named", x.read(0, 1, 1), 2);
        due.is("grew", x.grew(3, 0, 1), 8);
        due.is("shrank", x.grew(3, 1, 0), -8);
        due.is("none in another test", x.grew(3, 0, 2), -1000);
        due.is("none are read", x.read(0, 2, 0), 0);
        x.tell(0, 0, -1);
        due.is("without points in a", x.read(0, 1, 0), 3);
        x.tell(1, 1, -1);
        due.is("without points in b", x.read(0, 1, 1), 0);
        x.gone(2);
        due.is("one that is gone is read", x.grew(2, 0, 1), 7);
        Due.say(x, 1, "out if above 99;");
        due.is("out", x.grew(2, 0, 1), -1000);
        due.is("all out", x.read(0, 1, 0), 0);
    }

    private static void effects() {
        BloomRooms x = grown(3, 10, 11, 11, 4, 5);
        due.is("effect", x.effect(0, 1, 0), 1);
        due.fraction("32 by 3 less 9 by 2", x, 37, 6);
        due.is("in thousandths", x.sure(), 6166);
        x.effect(1, 0, 0);
        due.fraction("the other way", x, -37, 6);
        due.is("towards 0", x.sure(), -6166);
        x.word(3, 4);
        x.word(4, 2);
        x.effect(0, 1, 0);
        due.fraction("others may have words", x, 37, 6);
        for (int c = 0; c < 5; c++) {
            x.word(c, 1);
        }
        due.is("no others", x.effect(0, 1, 0), 0);
        due.fraction("no others", x, 0, 0);
        due.is("anew without others", x.effect(0, 1, 1), 0);
        due.is("sure without any", x.sure(), 0);
        for (int c = 0; c < 5; c++) {
            x.word(c, 0);
        }
        due.is("none named", x.effect(0, 1, 0), 0);
        due.is("anew with none named", x.effect(0, 1, 1), 0);
        BloomRooms same = grown(1, 5, 5);
        due.is("0 is an effect", same.effect(0, 1, 0), 1);
        due.fraction("0", same, 0, 1);
        due.is("thousandths of 0", same.sure(), 0);
    }

    private static void anewInOneRoom() {
        anew(grown(2, 9, 8, 7, 6, 5), 1, 10);
        anew(grown(2, 9, 6, 7, 8, 5), 2, 5);
        anew(grown(2, 5, 6, 7, 8, 9), 1, 1);
        anew(grown(1, 3, 3, 3), 1, 1);
        anew(grown(3, 9, 8, 7, 1), 1, 4);
        anew(grown(3, 9, 8, 1, 7), 1, 2);
        anew(grown(1, -50, -60, 40, -50), 3, 4);
        anew(grown(1, 100, -100), 1, 2);
    }

    private static void anew(BloomRooms x, long upper, long lower) {
        due.is("anew", x.effect(0, 1, 1), 1);
        due.fraction("anew", x, upper, lower);
    }

    private static void anewByRoom() {
        BloomRooms x = grown(1, 9, 5, 5);
        x.room(0, false);
        x.room(0, false);
        addRoom(x, 1, 2, 30, 20, 10);
        // 9 and 30 and 20 are 59: no other way of the nine comes up to that
        anew(x, 1, 9);
        addRoom(x, 2, 2, 77, -77);
        anew(x, 1, 9);
        x.word(6, 0);
        x.word(7, 0);
        anew(x, 1, 9);
        x.word(7, 1);
        // all nine ways with 77, one with -77
        anew(x, 5, 9);
        BloomRooms y = grown(1, 4, 2, 0);
        y.room(0, false);
        addRoom(y, 1, 1, 3, 5, 1);
        // 4 and 3: as much or more are 4 5, 4 3, 2 5
        anew(y, 1, 3);
    }

    private static void manyChildren() {
        int[] same = new int[40];
        anew(grown(20, same), 1, 1);
        int[] one = new int[40];
        one[0] = 1;
        anew(grown(20, one), 1, 2);
        int[] falling = new int[40];
        for (int i = 0; i < 40; i++) {
            falling[i] = 100 - 5 * i;
        }
        anew(grown(20, falling), 1, 137846528820L);
        falling[19] = 0;
        falling[20] = 5;
        anew(grown(20, falling), 1, 68923264410L);
        BloomRooms x = grown(20, falling);
        x.effect(0, 1, 1);
        due.is("nothing of a thousandth", x.sure(), 0);
        BloomRooms y = new BloomRooms();
        y.room(0, false);
        for (int c = 0; c < 40; c++) {
            y.child(0, 1, 0);
            y.tell(c, 0, c < 20 ? 0 : 200);
            y.tell(c, 1, c < 20 ? 200 : 0);
            y.word(c, c < 20 ? 1 : 0);
        }
        y.effect(0, 1, 0);
        due.fraction("the greatest effect", y, 400, 1);
        anew(y, 1, 137846528820L);
    }

    private static void roomByRoom() {
        BloomRooms x = new BloomRooms();
        for (int r = 0; r < 6; r++) {
            x.room(0, false);
        }
        addRoom(x, 0, 2, 9, 9, 8);
        addRoom(x, 1, 1, 1, 2);
        addRoom(x, 2, 2, 5, 6);
        addRoom(x, 3, 0, 9);
        due.is("mean", x.mean(0, 0, 1), 8666);
        due.is("mean the other way", x.mean(0, 1, 0), -8666);
        due.is("mean of half named", x.mean(1, 0, 1), 1500);
        due.is("mean of none", x.mean(4, 0, 1), -1000000);
        due.is("mean of no room", x.mean(6, 0, 1), -1000000);
        due.is("mean of room -1", x.mean(-1, 0, 1), -1000000);
        due.is("mean of no test", x.mean(0, 0, 6), -1000000);
        due.is("mean of no test", x.mean(0, -1, 1), -1000000);
        due.is("mean of a test itself", x.mean(0, 1, 1), -1000000);
        due.is("nothing is counted", x.status(2) + x.status(3), 0);
        // Rooms 0 and 2 are named: 8666 and 5500. As much or more: 0 3, 2 3, 0 2 of six sets.
        due.is("room by room", x.effect(0, 1, 2), 1);
        due.fraction("room by room", x, 1, 2);
        x.word(8, 1);
        x.word(0, 0);
        x.word(7, 1);
        // Rooms 2 and 3 are named then: 14500. As much or more: 0 3, 2 3.
        x.effect(0, 1, 2);
        due.fraction("room by room", x, 1, 3);
        for (int c = 0; c < 8; c++) {
            x.word(c, 1);
        }
        due.is("all rooms are named", x.effect(0, 1, 2), 0);
        for (int c = 0; c < 8; c++) {
            x.word(c, c == 3 ? 1 : 0);
        }
        due.is("no room is named", x.effect(0, 1, 2), 0);
        due.is("but a child is", x.effect(0, 1, 0), 1);
        manyRooms();
        closeRooms();
    }

    private static void closeRooms() {
        BloomRooms x = new BloomRooms();
        for (int r = 0; r < 4; r++) {
            x.room(0, false);
        }
        addRoom(x, 0, 3, 1, 0, 0);
        addRoom(x, 1, 3, 1, 1, 0);
        addRoom(x, 2, 0, 0);
        addRoom(x, 3, 0, 1);
        // 333 and 666 are 999; 0 and 1000 are more, as are 333 and 1000, 666 and 1000
        x.effect(0, 1, 2);
        due.fraction("by one more", x, 2, 3);
        x.word(0, 0);
        x.word(1, 0);
        x.word(2, 0);
        x.word(3, 0);
        x.word(4, 0);
        x.word(5, 0);
        x.word(6, 1);
        x.word(7, 1);
        // 0 and 1000 are named: 333 and 666 are one less
        x.effect(0, 1, 2);
        due.fraction("by one less", x, 1, 2);
    }

    private static void manyRooms() {
        BloomRooms x = new BloomRooms();
        for (int r = 0; r < 18; r++) {
            x.room(0, false);
            addRoom(x, r, r < 9 ? 2 : 0, 40 - r, 41 - r);
        }
        x.effect(0, 1, 2);
        due.fraction("the best of all sets", x, 1, 48620);
        x.word(0, 0);
        x.word(1, 0);
        x.word(18, 1);
        x.word(19, 1);
        x.effect(0, 1, 2);
        due.is("others are as much", x.upper() > 1 ? 1 : 0, 1);
        due.is("of all sets", 48620 % x.lower(), 0);
    }

    private static void ends() {
        BloomRooms x = grown(2, 100, 20, 10, 5);
        due.is("at 200 without a law", x.read(0, 1, 2), 1);
        x.effect(0, 1, 0);
        due.fraction("effect", x, 105, 2);
        due.is("clean", x.effect(0, 1, 3), 1);
        due.fraction("clean", x, 25, 2);
        due.is("made", x.effect(0, 1, 4), 1);
        due.fraction("made", x, 40, 1);
        x.tell(3, 0, 0);
        due.is("at 0 without a law", x.read(0, 1, 2), 2);
        Due.say(x, 0, "floor 110;roof 120;");
        due.is("ends by the law", x.read(0, 1, 2), 2);
        due.is("no clean", x.effect(0, 1, 4), 1);
        Due.say(x, 0, "floor 120;");
        due.is("ends", x.read(0, 1, 2), 2);
        x.tell(0, 1, 199);
        due.is("floor alone", x.read(0, 1, 2), 1);
        due.is("the roof is 200 then", x.read(1, 0, 2), 1);
        Due.say(x, 0, "floor 100;");
        due.is("clean is none", x.effect(0, 1, 3), 0);
        due.is("made is none", x.effect(0, 1, 4), 0);
        due.fraction("made is none", x, 0, 0);
    }

    private static void looks() {
        BloomRooms x = grown(1, 10, 0, 0);
        due.is("one look", x.looks(0), 1);
        due.is("best", x.looks(1), 1);
        due.is("paid", x.paid(), 1);
        due.fraction("paid once", x, 1, 3);
        for (int c = 0; c < 3; c++) {
            x.tell(c, 3, c == 0 ? 150 : 100);
            x.tell(c, 5, c == 0 ? 90 : 100);
        }
        due.is("looks", x.looks(0), 6);
        due.is("the first of the best", x.looks(1), 1);
        x.paid();
        due.fraction("1 at most", x, 1, 1);
        x.tell(0, 1, 100);
        due.is("the next best", x.looks(1), 3);
        x.tell(0, 0, 150);
        due.is("the next best", x.looks(1), 13);
        BloomRooms y = grown(2, 9, 8, 0, 0, 0, 0);
        y.tell(0, 2, 80);
        y.tell(2, 2, 80);
        y.paid();
        due.fraction("thrice", y, 1, 5);
        BloomRooms z = grown(0, 1, 2);
        due.is("no looks", z.looks(0), 0);
        due.is("no best", z.looks(1), -1);
        due.is("not paid", z.paid(), 0);
        due.fraction("not paid", z, 0, 0);
        z.word(0, 1);
        z.effect(0, 1, 0);
        due.is("looks leave the fraction", z.looks(0), 1);
        due.fraction("looks leave the fraction", z, -1, 1);
        due.is("best leaves the fraction", z.looks(1), 1);
        due.fraction("best leaves the fraction", z, -1, 1);
        due.is("looks 2", z.looks(2), -2);
        due.is("looks -1", z.looks(-1), -2);
        due.is("-2", z.status(2), 2);
    }

    private static void refused() {
        BloomRooms x = grown(1, 10, 0);
        x.effect(0, 1, 0);
        due.is("read no test", x.read(6, 6, 0), -2);
        due.is("read no test", x.read(0, -1, 0), -2);
        due.is("read 3", x.read(0, 0, 3), -2);
        due.is("read -1", x.read(0, 1, -1), -2);
        due.is("read a test itself", x.read(1, 1, 2), -3);
        due.is("effect of no test", x.effect(6, 6, 0), -2);
        due.is("effect of no test", x.effect(1, 6, 0), -2);
        due.is("effect 5", x.effect(0, 0, 5), -2);
        due.is("effect -1", x.effect(0, 1, -1), -2);
        due.is("effect of a test itself", x.effect(2, 2, 4), -3);
        due.is("-2", x.status(2), 8);
        due.is("-3", x.status(3), 2);
        due.is("grew of no child", x.grew(2, 0, 1), -1000);
        due.is("grew of child -1", x.grew(-1, 0, 1), -1000);
        due.is("grew of no test", x.grew(0, 0, 6), -1000);
        due.is("grew of no test", x.grew(0, -1, 1), -1000);
        due.is("grew of a test itself", x.grew(0, 1, 1), -1000);
        due.is("none of these is counted", x.status(2) + x.status(3), 10);
        due.fraction("the fraction stays", x, 10, 1);
    }
}
