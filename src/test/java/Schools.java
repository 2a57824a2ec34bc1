/** Objects in three states, made by the same calls each time: with nothing, with some of each thing, and full. */
final class Schools {
    /** What a TAPE of Schools.some holds. */
    static final String TAPE = "out if told;        ";
    private static final String BLANKS = " ".repeat(20);

    private Schools() {
    }

    static BloomRooms empty() {
        return new BloomRooms();
    }

    /**
     * Two ROOMS, four CHILDREN (the last one GONE), a LAW, a RULE, TESTS 0, 1 and 2, FILMS, MARKS, TRIALS, KEPT LAW
     * 1, ROWS 0 to 2, IMAGE 1 of an earlier state, a FRACTION, a FAULT of 3 at 5, twenty bytes on THE TAPE.
     */
    static BloomRooms some() {
        return without("");
    }

    /** The same, but made without a call, as far as that can be: so it is the first one of its kind that comes then. */
    static BloomRooms without(String call) {
        BloomRooms x = new BloomRooms();
        x.room(2, false);
        x.room(0, true);
        x.child(0, 1, 50);
        x.child(0, 2, 60);
        x.child(1, 3, 70);
        x.child(1, 4, 80);
        Due.say(x, 0, "named moves 20;true moves -30;known 5;warmth gives 5 grows 50;gift 3;noise 1;");
        Due.say(x, 1, "out if grade 4 and above 100;");
        if (call.equals("word")) {
            x.deal(false, 1, 5);
        } else {
            x.word(0, 1);
        }
        if (!call.equals("image")) {
            x.image(1);
        }
        if (!call.equals("word")) {
            x.word(2, 2);
        }
        test(x, call, 0, 1, 51, 59, 69, 79);
        if (!call.equals("year")) {
            x.year();
        }
        test(x, call, 1, 2, 57, 64, 67, 83);
        if (!call.equals("tell")) {
            x.tell(3, 2, 9);
        }
        if (!call.equals("gone")) {
            x.gone(3);
        }
        filmsMarksTrials(x, call);
        if (!call.equals("keep")) {
            x.keep(1);
        }
        if (!call.equals("row")) {
            x.row(0, 1, 4);
            x.write(0, 1, 90);
            x.row(1, 0, 3);
            x.row(2, 2, 5);
            x.write(2, 3, 201);
        }
        Due.say(x, 0, "gift 51;");
        x.effect(0, 1, 0);
        Due.feed(x, TAPE);
        return x;
    }

    private static void filmsMarksTrials(BloomRooms x, String call) {
        if (!call.equals("film")) {
            x.film(0, true, 9);
            x.film(0, false, 4);
            x.film(1, false, 7);
            x.film(1, true, 3);
        }
        if (!call.equals("mark")) {
            x.mark(0, 0, 40);
            x.mark(1, 0, 55);
        }
        if (!call.equals("trial")) {
            x.trial(0, 40, 1, true);
            x.trial(2, 0, 3, true);
            x.trial(5, -7, 2, false);
        }
    }

    private static void test(BloomRooms x, String without, int test, int seed, int... points) {
        if (!without.equals("give")) {
            x.give(test, seed, false);
            return;
        }
        for (int c = 0; c < points.length; c++) {
            x.tell(c, test, points[c]);
        }
    }

    /** As many ROOMS, CHILDREN, YEARS, FILMS, MARKS, TRIALS, numbers of a ROW and bytes on THE TAPE as can be. */
    static BloomRooms full() {
        BloomRooms x = new BloomRooms();
        for (int r = 0; r < 18; r++) {
            x.room(r, r % 2 == 1);
        }
        for (int c = 0; c < 40; c++) {
            x.child(c < 36 ? c / 2 : 17, 1 + c % 6, 2 * c);
        }
        Due.say(x, 0, "named moves 9;warmth gives 20 grows 90;gift 2;");
        x.deal(true, 9, 4);
        x.word(39, 5);
        x.give(0, 7, false);
        for (int y = 0; y < 6; y++) {
            x.year();
        }
        x.give(1, 8, false);
        for (int i = 0; i < 24; i++) {
            x.film(i % 3, i % 5 == 0, 4 * i);
        }
        for (int i = 0; i < 40; i++) {
            x.mark(i, 0, 5 * i);
        }
        for (int i = 0; i < 20; i++) {
            x.trial(i, 5 * i * i - 999, 1 + i, i % 2 == 0);
        }
        x.row(3, 3, 40);
        x.keep(3);
        x.hair(0, 0);
        for (int i = 0; i < 20; i++) {
            Due.feed(x, i < 12 ? TAPE : BLANKS);
        }
        return x;
    }
}
