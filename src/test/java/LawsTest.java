/** Promises 34 to 38: KEPT LAWS, how many ROOMS are needed, what a school may be told. */
public final class LawsTest {
    private static final Due due = new Due();

    public static void main(String[] args) {
        keptLaws();
        foretoldByYears();
        likely();
        needed();
        said();
        due.end();
    }

    private static BloomRooms school() {
        BloomRooms x = new BloomRooms();
        x.room(0, true);
        for (int c = 0; c < 3; c++) {
            x.child(0, 1, 100);
        }
        return x;
    }

    private static void keptLaws() {
        BloomRooms x = school();
        due.is("keep 4", x.keep(4), -2);
        due.is("keep -1", x.keep(-1), -2);
        due.is("not kept", x.fits(0, 0, 1), -5);
        due.is("fits 4", x.fits(4, 1, 1), -2);
        due.is("fits no test", x.fits(0, 6, 6), -2);
        due.is("fits no test", x.fits(0, 0, -1), -2);
        due.is("fits a is b", x.fits(0, 1, 1), -3);
        due.is("likely no test", x.likely(6, 6), -2);
        due.is("likely no test", x.likely(-1, 0), -2);
        due.is("likely a is b", x.likely(1, 1), -3);
        due.is("none is kept", x.likely(0, 1), -1);
        due.is("keep 3", x.keep(3), 0);
        due.is("no one is read", x.fits(3, 0, 1), 0);
        due.is("the only one", x.likely(0, 1), 3);
        Due.say(x, 0, "noise 5;");
        for (int c = 0; c < 3; c++) {
            x.tell(c, 0, 100);
            x.tell(c, 1, 109 + c);
        }
        due.is("without noise", x.fits(3, 0, 1), 0);
        due.is("keep 2", x.keep(2), 0);
        due.is("twice its noise", x.fits(2, 0, 1), 2);
        due.is("twice its noise below", x.fits(2, 1, 0), 2);
        Due.say(x, 0, "noise 20;");
        due.is("it stays as it was kept", x.fits(2, 0, 1), 2);
        due.is("keep in place of it", x.keep(2), 0);
        due.is("the later one", x.fits(2, 0, 1), 3);
        Due.say(x, 1, "out if above 99;");
        due.is("read ones alone", x.fits(2, 0, 1), 0);
    }

    private static void foretoldByYears() {
        BloomRooms x = school();
        x.word(0, 1);
        x.word(1, 5);
        Due.say(x, 0, "named moves 10;warmth gives 10 grows 90;gift 3;hears 4;");
        x.keep(0);
        x.give(0, 0, false);
        x.year();
        x.give(1, 0, false);
        x.year();
        x.year();
        x.give(2, 0, false);
        // Named: 3 and 9 in the first year, 3 and 4 in the next ones, when it is forgotten by half.
        due.is("grew", x.grew(0, 0, 1), 12);
        due.is("grew", x.grew(0, 1, 2), 14);
        due.is("heard", x.grew(1, 0, 2), 21);
        due.is("no word", x.grew(2, 0, 2), 9);
        due.is("all fit", x.fits(0, 0, 1), 3);
        due.is("all fit", x.fits(0, 1, 2), 3);
        due.is("all fit", x.fits(0, 0, 2), 3);
        due.is("foretold is 0 the other way", x.fits(0, 2, 0), 0);
        x.tell(0, 0, 50);
        x.tell(0, 2, 50);
        due.is("0 the other way", x.fits(0, 2, 0), 1);
        due.is("one is off", x.fits(0, 0, 2), 2);
        x.word(2, 5);
        due.is("by the word it has now", x.fits(0, 0, 2), 1);
        x.tell(0, 5, 50);
        due.is("a test never given has year 0", x.fits(0, 0, 5), 1);
    }

    private static void likely() {
        BloomRooms x = school();
        x.give(0, 0, false);
        Due.say(x, 0, "gift 7;");
        x.keep(1);
        Due.say(x, 0, "gift 5;");
        x.keep(2);
        x.year();
        x.give(1, 0, false);
        x.keep(3);
        due.is("the first of those that fit best", x.likely(0, 1), 2);
        x.tell(0, 1, 107);
        x.tell(1, 1, 107);
        due.is("two of three fit", x.likely(0, 1), 1);
        x.tell(2, 1, -1);
        x.tell(0, 1, 100);
        x.tell(1, 1, 100);
        due.is("none fits: the first kept one", x.likely(0, 1), 1);
        Due.say(x, 0, "");
        x.keep(0);
        due.is("the first", x.likely(0, 1), 0);
    }

    private static void needed() {
        BloomRooms x = new BloomRooms();
        int[] ways = {2, 3, 6, 10, 20, 35, 70, 126, 252, 462, 924, 1716, 3432, 6435, 12870, 24310};
        for (int i = 0; i < ways.length; i++) {
            due.is("needed for 1 in " + ways[i], x.needed(ways[i]), i + 2);
            due.is("needed for one more", x.needed(ways[i] + 1), i + 3);
        }
        due.is("needed for 40000", x.needed(40000), 18);
        due.is("needed for 40001", x.needed(40001), -3);
        due.is("needed for 1", x.needed(1), -3);
        due.is("-3", x.status(3), 2);
    }

    private static void said() {
        BloomRooms x = new BloomRooms();
        x.room(0, false);
        for (int c = 0; c < 8; c++) {
            x.child(0, 1, 0);
            x.tell(c, 0, 100);
            x.tell(c, 1, c < 3 ? 110 : 100);
        }
        due.is("say no test", x.say(6, 6), -2);
        due.is("say no test", x.say(0, -1), -2);
        due.is("say a is b", x.say(0, 0), -3);
        due.is("nothing", x.say(0, 1), 0);
        x.word(7, 3);
        due.is("nothing, though one was told bad", x.say(0, 1), 0);
        for (int c = 0; c < 3; c++) {
            x.word(c, 1);
        }
        x.tell(7, 0, -1);
        x.gone(7);
        due.is("a child was told bad", x.say(0, 1), 1);
        x.word(7, 2);
        due.is("no more", x.say(0, 1) != 1 ? 1 : 0, 1);
        x.word(3, 0);
        x.word(0, 3);
        due.is("the first was told bad", x.say(0, 1), 1);
        x.word(0, 1);
        x.tell(7, 0, 100);
        x.tell(7, 1, 100);
        x.hair(0, 0);
        x.effect(0, 1, 1);
        due.fraction("anew", x, 1, 56);
        due.is("it is more", x.say(0, 1), 5);
        due.is("it isn't more", x.say(1, 0), 3);
        x.tell(0, 1, 100);
        due.is("it may be chance", x.say(0, 1), 4);
        x.tell(0, 1, 110);
        x.tell(0, 2, 100);
        due.is("one look more, not split", x.say(0, 1), 5);
        x.tell(3, 2, 100);
        due.is("two looks more", x.say(0, 1), 4);
        due.fraction("the fraction stays", x, 1, 56);
        x.tell(3, 2, -1);
        Due.say(x, 0, "roof 110;");
        due.is("clean is none", x.say(0, 1), 2);
        x.tell(0, 1, 100);
        due.is("clean is 0", x.say(0, 1), 2);
        x.tell(0, 1, 99);
        due.is("clean is below 0", x.say(0, 1), 2);
        Due.say(x, 0, "");
        x.tell(0, 1, 101);
        x.tell(1, 1, 101);
        x.tell(2, 1, 101);
        due.is("1 is more", x.say(0, 1), 5);
        x.tell(0, 1, 99);
        x.tell(1, 1, 100);
        x.tell(2, 1, 100);
        due.is("it isn't more", x.say(0, 1), 3);
        x.tell(0, 1, 100);
        due.is("effect 0 isn't more", x.say(0, 1), 3);
        oneIn20();
    }

    private static void oneIn20() {
        BloomRooms x = new BloomRooms();
        x.room(0, false);
        for (int c = 0; c < 6; c++) {
            x.child(0, 1, 0);
            x.tell(c, 0, 100);
            x.tell(c, 1, c < 3 ? 110 : 100);
            x.word(c, c < 3 ? 1 : 0);
        }
        due.is("1 by 20 isn't above", x.say(0, 1), 5);
        for (int c = 0; c < 6; c++) {
            x.tell(c, 1, 100);
            x.tell(c, 0, c < 3 ? 90 : 100);
        }
        Due.say(x, 1, "out if below 100 and above 90 or above 100;");
        due.is("still", x.say(0, 1), 5);
        // Read from 1 to 0 alone, where all are in: no look below, PAID is 0 over 0.
        Due.say(x, 1, "out if below 95;");
        for (int c = 0; c < 6; c++) {
            x.tell(c, 0, 50 + (c < 3 ? 10 : 0));
        }
        due.is("no looks", x.looks(0), 0);
        due.is("an effect the other way", x.effect(1, 0, 0), 1);
        due.is("paid is none", x.say(1, 0), 4);
    }
}
