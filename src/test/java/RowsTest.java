/** Promises 39 to 45: ROWS, IMAGES, what is counted. */
public final class RowsTest {
    private static final Due due = new Due();

    public static void main(String[] args) {
        rows();
        numbers();
        pours();
        images();
        imagesOfOthers();
        imagesApart();
        due.end();
    }

    private static void rows() {
        BloomRooms x = new BloomRooms();
        for (int row = 0; row < 4; row++) {
            due.is("missing", x.write(row, 0, 0), -6);
            due.is("missing", x.pour(row, 0), -6);
        }
        due.is("row 4", x.row(4, 0, 41), -2);
        due.is("row -1", x.row(-1, 0, 0), -2);
        due.is("sort 4", x.row(0, 4, 41), -2);
        due.is("sort -1", x.row(0, -1, 0), -2);
        due.is("41 numbers", x.row(0, 0, 41), -3);
        due.is("-1 numbers", x.row(0, 0, -1), -3);
        due.is("still missing", x.write(0, 0, 0), -6);
        due.is("no numbers", x.row(0, 0, 0), 0);
        due.is("too short", x.write(0, 0, 0), -7);
        due.is("40 numbers", x.row(0, 3, 40), 0);
        due.is("the last", x.write(0, 39, 5), 5);
        due.is("40", x.write(0, 40, 5), -7);
        due.is("-1", x.write(0, -1, 5), -7);
        due.is("refused row", x.row(0, 0, 41), -3);
        due.is("it stays", x.write(0, 39, 1L << 40), 1L << 40);
        due.is("write to row 4", x.write(4, 0, 0), -2);
        due.is("write to row -1", x.write(-1, 0, 0), -2);
        due.is("-6", x.status(6), 9);
        due.is("-7", x.status(7), 3);
    }

    private static void numbers() {
        BloomRooms x = new BloomRooms();
        long[] given = {127, 128, -129, 32768, -32769, 1L << 31, -(1L << 31) - 1, Long.MIN_VALUE, Long.MAX_VALUE};
        for (int sort = 0; sort < 4; sort++) {
            x.row(sort, sort, 9);
        }
        for (int i = 0; i < given.length; i++) {
            due.is("8 bits", x.write(0, i, given[i]), (byte) given[i]);
            due.is("16 bits", x.write(1, i, given[i]), (short) given[i]);
            due.is("32 bits", x.write(2, i, given[i]), (int) given[i]);
            due.is("64 bits", x.write(3, i, given[i]), given[i]);
        }
    }

    private static void pours() {
        BloomRooms x = new BloomRooms();
        x.row(0, 1, 0);
        due.is("no one", x.pour(0, 0), 0);
        due.is("row 4", x.pour(4, 0), -2);
        due.is("row -1", x.pour(-1, 0), -2);
        due.is("test 6", x.pour(1, 6), -2);
        due.is("test -1", x.pour(1, -1), -2);
        due.is("missing", x.pour(1, 5), -6);
        x.room(0, false);
        for (int c = 0; c < 3; c++) {
            x.child(0, 1, 10);
        }
        x.gone(2);
        x.year();
        x.give(5, 0, false);
        x.year();
        x.row(0, 1, 2);
        due.is("too short", x.pour(0, 5), -7);
        x.row(0, 1, 3);
        x.write(0, 0, 200);
        x.write(0, 1, -1);
        due.is("poured", x.pour(0, 5), 3);
        due.is("200", x.point(0, 5), 200);
        due.is("none", x.point(1, 5), -1);
        due.is("one that is gone", x.point(2, 5), 0);
        due.is("its years", x.count(25), 1);
        x.write(0, 1, 7);
        x.write(0, 2, 201);
        due.is("201", x.pour(0, 5), -3);
        due.is("nothing is poured", x.point(1, 5), -1);
        x.write(0, 2, -2);
        due.is("-2", x.pour(0, 5), -3);
        x.row(0, 1, 3);
        due.is("all 0", x.pour(0, 5), 3);
        due.is("0", x.point(0, 5), 0);
        x.row(0, 3, 40);
        x.write(0, 0, 1L << 32);
        due.is("as it is in 64 bits", x.pour(0, 5), -3);
        due.is("longer than the children", x.row(0, 0, 40) + x.pour(0, 4), 3);
        x.row(0, 1, 40);
        x.write(0, 3, 201);
        x.write(0, 39, -2);
        due.is("numbers behind those of the children are no points", x.pour(0, 4), 3);
    }

    /** An object with one of each thing. */
    private static BloomRooms full() {
        BloomRooms x = new BloomRooms();
        x.room(3, true);
        x.room(0, false);
        for (int c = 0; c < 4; c++) {
            x.child(c % 2, 1 + c, 50 + c);
        }
        Due.say(x, 0, "named moves 20;warmth gives 10 grows 50;noise 1;gift 2;");
        Due.say(x, 1, "out if grade 4;");
        x.word(0, 1);
        x.word(2, 5);
        x.give(0, 4, false);
        x.year();
        x.give(1, 5, false);
        x.keep(1);
        x.film(0, true, 9);
        x.film(0, false, 5);
        x.mark(0, 0, 40);
        x.mark(1, 0, 50);
        x.trial(1, 10, 1, true);
        x.trial(2, 30, 1, false);
        x.gone(1);
        return x;
    }

    /** All that can be seen of it but the fraction, as one number. */
    private static long seen(BloomRooms x) {
        long sum = 0;
        for (int what = 0; what < 26; what++) {
            sum = 31 * sum + (what == 8 ? 0 : x.count(what));
        }
        for (int c = 0; c < 8; c++) {
            for (int what = 0; what < 7; what++) {
                sum = 31 * sum + x.of(c, what);
            }
            for (int t = 0; t < 6; t++) {
                sum = 31 * sum + x.point(c, t);
            }
            sum = 31 * sum + x.grew(c, 0, 1);
        }
        sum = 31 * sum + x.fits(1, 0, 1);
        sum = 31 * sum + x.fits(2, 0, 1);
        sum = 31 * sum + x.carried() + x.upper() + x.lower();
        sum = 31 * sum + x.same(0) + x.upper() + x.lower();
        sum = 31 * sum + x.curve(false) + x.upper() + x.lower();
        return 31 * sum + x.curve(true) + x.upper() + x.lower();
    }

    private static void change(BloomRooms x) {
        x.room(7, false);
        x.child(2, 6, 9);
        x.word(0, 3);
        x.word(2, 0);
        x.gone(0);
        Due.say(x, 0, "bad moves 7;");
        Due.say(x, 1, "");
        x.year();
        x.give(0, 1, true);
        x.give(5, 1, true);
        x.tell(3, 1, 3);
        x.keep(1);
        x.keep(2);
        x.film(0, true, 1);
        x.mark(0, 0, 1);
        x.trial(7, 7, 7, true);
    }

    private static void images() {
        for (int i = 0; i < 2; i++) {
            BloomRooms x = full();
            due.is("none made", x.restore(i), -5);
            long before = seen(x);
            due.is("image", x.image(i), 0);
            change(x);
            long after = seen(x);
            due.is("something is changed", before != after ? 1 : 0, 1);
            due.is("the other isn't made", x.restore(1 - i), -5);
            due.is("restore", x.restore(i), 0);
            due.is("as it was", seen(x), before);
            change(x);
            due.is("changed again", seen(x), after);
            due.is("restore again", x.restore(i), 0);
            due.is("as it was again", seen(x), before);
        }
        BloomRooms x = new BloomRooms();
        due.is("image 2", x.image(2), -2);
        due.is("image -1", x.image(-1), -2);
        due.is("restore 2", x.restore(2), -2);
        due.is("restore -1", x.restore(-1), -2);
        due.is("nobody", x.image(1), 0);
        x.film(1, true, 1);
        x.film(1, false, 1);
        x.mark(1, 1, 1);
        x.trial(9, -9, 9, false);
        change(x);
        x.restore(1);
        due.is("nobody again", x.count(0) + x.count(1) + x.count(2) + x.count(5) + x.count(6) + x.count(7), 0);
        due.is("no law is kept", x.likely(0, 1), -1);
    }

    /** Each of two images holds all of its own, whatever came in its place meanwhile. */
    private static void imagesOfOthers() {
        BloomRooms x = new BloomRooms();
        x.image(0);
        history(x, 1);
        x.image(1);
        long first = seen(x);
        x.restore(0);
        history(x, 2);
        x.image(0);
        long second = seen(x);
        due.is("others", first != second ? 1 : 0, 1);
        for (int n = 0; n < 2; n++) {
            x.restore(1);
            due.is("the first", seen(x), first);
            due.is("its hold", x.of(0, 5), 0);
            due.is("its hold", x.of(1, 5), 10);
            due.is("its room", x.of(1, 0), 1);
            due.is("its grade", x.of(0, 1), 1);
            due.is("its gift", x.of(0, 2), 10);
            x.hair(0, 0);
            due.fraction("its films", x, -10, 1);
            due.is("no films", x.hair(1, 0), 0);
            due.is("its marks", x.same(0), 0);
            x.same(1);
            due.fraction("its marks", x, -5, 1);
            x.curve(false);
            due.fraction("its trials", x, -11, 14);
            due.is("none printed", x.curve(true), 0);
            due.is("its kept law", x.fits(0, 0, 1), 1);
            x.restore(0);
            due.is("the second", seen(x), second);
            due.is("its hold", x.of(0, 5), 10);
            due.is("its room", x.of(1, 0), 0);
            due.is("its grade", x.of(0, 1), 2);
            due.is("its gift", x.of(0, 2), 20);
            x.hair(1, 0);
            due.fraction("its films", x, 20, 1);
            due.is("no films", x.hair(0, 0), 0);
            x.same(0);
            due.fraction("its marks", x, -2, 1);
            x.curve(true);
            due.fraction("its trials", x, 13, 51);
            due.is("its kept law", x.fits(0, 0, 1), 2);
        }
    }

    private static void history(BloomRooms x, int n) {
        x.room(2 - n, n == 2);
        x.room(0, n == 1);
        for (int c = 0; c < 3; c++) {
            x.child(n == 1 ? c % 2 : 0, n, 10 * n);
            x.tell(c, 0, 50);
            x.tell(c, 1, 50 + 4 * c);
        }
        x.word(0, 1);
        x.word(1, 5);
        Due.say(x, 0, n == 1 ? "known 100;named moves 20;heard moves 20;" : "named moves 20;noise 3;");
        x.keep(0);
        x.year();
        x.film(n - 1, n == 2, 10 * n);
        x.film(n - 1, n == 1, 10 * n - 10 * (n == 1 ? 1 : 2));
        x.mark(n == 1 ? 0 : 1, n == 1 ? 1 : 0, n == 1 ? 47 : 50);
        x.mark(n == 1 ? 2 : 0, n == 1 ? 1 : 0, n == 1 ? 50 : 52);
        x.trial(n, n * n, n, n == 2);
        x.trial(2 * n + 1, n * n + n, 1, n == 2);
        x.trial(0, 5, 1, n == 2);
    }

    private static void imagesApart() {
        BloomRooms x = full();
        x.image(0);
        x.year();
        x.image(1);
        Due.say(x, 0, "gift 1 1;");
        x.curve(false);
        x.row(0, 1, 40);
        x.write(0, 0, 77);
        x.feed(1, 2, 3, 4, 5);
        x.room(21, false);
        x.restore(0);
        due.is("years", x.count(2), 1);
        x.restore(1);
        due.is("the other image is still there", x.count(2), 2);
        due.is("the fault stays", x.fault(0), 2);
        due.is("its place stays", x.fault(1), 7);
        due.fraction("the fraction stays", x, 20, 1);
        due.is("the tape stays", x.count(8), 20);
        due.is("what was refused stays", x.status(3), 1);
        due.is("what was refused stays", x.status(1), 1);
        due.is("the row stays", x.pour(0, 3), 4);
        due.is("the row stays", x.point(0, 3), 77);
    }
}
