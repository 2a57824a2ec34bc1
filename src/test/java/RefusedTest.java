import java.util.HashMap;
import java.util.LinkedHashMap;
import java.util.Map;
import java.util.function.Supplier;
import java.util.function.ToLongFunction;

/**
 * Each call that can be refused, by each of its codes: the answer, that status tells one refusal more of that code,
 * and that nothing else has changed. Where a call is wrong in two ways, the code that it tells first is due.
 */
public final class RefusedTest {
    private static final Due due = new Due();
    private static final Map<Supplier<BloomRooms>, Map<String, Long>> untouched = new HashMap<>();

    private static final Supplier<BloomRooms> SOME = Schools::some;
    private static final Supplier<BloomRooms> FULL = Schools::full;
    private static final Supplier<BloomRooms> EMPTY = Schools::empty;

    private static final int[] NO_CHILD = beyond(0, 3);
    private static final int[] NO_TEST = beyond(0, 5);
    private static final int[] NO_WAY = beyond(0, 2);
    private static final int[] NO_POINTS = beyond(0, 200);

    public static void main(String[] args) {
        roomsAndChildren();
        wordsAndGone();
        ofAndGiven();
        feedAndText();
        yearsTestsDealings();
        tellAndPoint();
        readAndEffect();
        notCounted();
        films();
        marksAndTrials();
        laws();
        twoTests();
        rows();
        pours();
        images();
        due.end();
    }

    /** The first numbers beyond a least and a greatest one, and those farthest away. */
    private static int[] beyond(int least, int greatest) {
        return new int[] {least - 1, greatest + 1, Integer.MIN_VALUE, Integer.MAX_VALUE};
    }

    private static void no(Supplier<BloomRooms> school, String name, int code, ToLongFunction<BloomRooms> call) {
        answers(school, name, code, code, call);
    }

    /** A code of 0 stands for a call that is not counted as refused. */
    private static void answers(Supplier<BloomRooms> school, String name, long answer, int code,
            ToLongFunction<BloomRooms> call) {
        BloomRooms x = school.get();
        due.is(name, call.applyAsLong(x), answer);
        Map<String, Long> want = new LinkedHashMap<>(untouched.computeIfAbsent(school, s -> Seen.of(s.get())));
        if (code < 0) {
            want.merge("status " + -code, 1L, Long::sum);
        }
        due.seen(name, Seen.of(x), want);
    }

    private static void roomsAndChildren() {
        for (int weeks : beyond(0, 20)) {
            no(SOME, "room of weeks " + weeks, -3, x -> x.room(weeks, true));
            no(EMPTY, "the first room of weeks " + weeks, -3, x -> x.room(weeks, false));
            no(FULL, "room 18 of weeks " + weeks, -3, x -> x.room(weeks, false));
        }
        no(FULL, "room 18", -4, x -> x.room(0, false));
        no(FULL, "room 18", -4, x -> x.room(20, true));
        for (int room : beyond(0, 1)) {
            no(SOME, "child in room " + room, -2, x -> x.child(room, 1, 0));
            no(SOME, "child of grade 0 in room " + room, -2, x -> x.child(room, 0, 0));
            no(SOME, "child of gift 201 in room " + room, -2, x -> x.child(room, 6, 201));
        }
        for (int room : beyond(0, 17)) {
            no(FULL, "child 40 in room " + room, -2, x -> x.child(room, 1, 0));
        }
        no(EMPTY, "child without rooms", -2, x -> x.child(0, 1, 0));
        no(EMPTY, "child without rooms, of grade 7", -2, x -> x.child(0, 7, -1));
        for (int grade : beyond(1, 6)) {
            no(SOME, "child of grade " + grade, -3, x -> x.child(0, grade, 0));
            no(FULL, "child 40 of grade " + grade, -3, x -> x.child(0, grade, 0));
        }
        for (int gift : NO_POINTS) {
            no(SOME, "child of gift " + gift, -3, x -> x.child(1, 1, gift));
            no(FULL, "child 40 of gift " + gift, -3, x -> x.child(1, 1, gift));
        }
        no(FULL, "child 40", -4, x -> x.child(0, 1, 0));
        no(FULL, "child 40", -4, x -> x.child(17, 6, 200));
    }

    private static void wordsAndGone() {
        for (int child : NO_CHILD) {
            no(SOME, "word of child " + child, -2, x -> x.word(child, 1));
            no(SOME, "word 6 of child " + child, -2, x -> x.word(child, 6));
            no(SOME, "gone " + child, -2, x -> x.gone(child));
        }
        no(EMPTY, "word of nobody", -2, x -> x.word(0, 0));
        no(EMPTY, "word -1 of nobody", -2, x -> x.word(0, -1));
        no(EMPTY, "gone, nobody", -2, x -> x.gone(0));
        no(FULL, "gone 40", -2, x -> x.gone(40));
        for (int word : beyond(0, 5)) {
            no(SOME, "word " + word, -3, x -> x.word(0, word));
            no(SOME, "word of one that is gone " + word, -3, x -> x.word(3, word));
        }
        no(SOME, "gone already", -5, x -> x.gone(3));
    }

    private static void ofAndGiven() {
        for (int child : NO_CHILD) {
            answers(SOME, "of child " + child, -1000, -2, x -> x.of(child, 0));
            answers(SOME, "of child " + child + ", what 7", -1000, -2, x -> x.of(child, 7));
            answers(SOME, "given to child " + child, -1000, -2, x -> x.given(child, 0));
            answers(SOME, "given to child " + child + " by way 3", -1000, -2, x -> x.given(child, 3));
        }
        for (int what : beyond(0, 6)) {
            answers(SOME, "of, what " + what, -1000, -2, x -> x.of(0, what));
        }
        for (int way : NO_WAY) {
            answers(SOME, "given by way " + way, -1000, -2, x -> x.given(0, way));
        }
        for (int what = 0; what < 7; what++) {
            int one = what;
            answers(EMPTY, "of nobody", -1000, -2, x -> x.of(0, one));
            answers(FULL, "of child 40", -1000, -2, x -> x.of(40, one));
        }
        answers(EMPTY, "given to nobody", -1000, -2, x -> x.given(0, 0));
    }

    private static void feedAndText() {
        no(FULL, "feed beyond 400 bytes", -4, x -> x.feed(0x67696674, 0x20313b20, 0, -1, 7));
        for (int what : beyond(0, 1)) {
            no(SOME, "text " + what, -2, x -> x.text(what, 20));
            no(SOME, "text " + what + " of too many bytes", -2, x -> x.text(what, 21));
            no(SOME, "text " + what + " of -1 bytes", -2, x -> x.text(what, -1));
            no(EMPTY, "text " + what + " of no bytes", -2, x -> x.text(what, 0));
        }
        for (int what = 0; what < 2; what++) {
            int one = what;
            for (int n : beyond(0, 20)) {
                no(SOME, "text of " + n + " bytes of 20", -3, x -> x.text(one, n));
            }
            for (int n : beyond(0, 400)) {
                no(FULL, "text of " + n + " bytes of 400", -3, x -> x.text(one, n));
            }
            for (int n : beyond(0, 0)) {
                no(EMPTY, "text of " + n + " bytes of none", -3, x -> x.text(one, n));
            }
        }
    }

    private static void yearsTestsDealings() {
        no(FULL, "year 7", -5, x -> x.year());
        for (int test : NO_TEST) {
            no(SOME, "give test " + test, -2, x -> x.give(test, 1, true));
            no(EMPTY, "give nobody test " + test, -2, x -> x.give(test, 0, false));
        }
        for (int many : beyond(0, 40)) {
            no(SOME, "deal to " + many, -3, x -> x.deal(false, many, 1));
            no(SOME, "deal to rooms, " + many, -3, x -> x.deal(true, many, 1));
            no(EMPTY, "deal without rooms to " + many, -3, x -> x.deal(false, many, 1));
            no(EMPTY, "deal to rooms without rooms, " + many, -3, x -> x.deal(true, many, 1));
        }
        for (int many = 0; many <= 40; many += 40) {
            int one = many;
            no(EMPTY, "deal without rooms", -5, x -> x.deal(false, one, 1));
            no(EMPTY, "deal to rooms without rooms", -5, x -> x.deal(true, one, 1));
        }
    }

    private static void tellAndPoint() {
        for (int child : NO_CHILD) {
            no(SOME, "point of child " + child, -2, x -> x.point(child, 0));
            no(SOME, "tell of child " + child, -2, x -> x.tell(child, 0, 1));
            no(SOME, "tell 201 of child " + child, -2, x -> x.tell(child, 0, 201));
            no(SOME, "point of child " + child + " in no test", -2, x -> x.point(child, 6));
            no(SOME, "tell of child " + child + " in no test", -2, x -> x.tell(child, -1, 1));
        }
        for (int test : NO_TEST) {
            no(SOME, "point in test " + test, -2, x -> x.point(0, test));
            no(SOME, "tell in test " + test, -2, x -> x.tell(0, test, 1));
            no(SOME, "tell -2 in test " + test, -2, x -> x.tell(0, test, -2));
        }
        for (int points : beyond(-1, 200)) {
            no(SOME, "tell " + points, -3, x -> x.tell(0, 0, points));
            no(SOME, "tell one that has none " + points, -3, x -> x.tell(0, 5, points));
        }
        no(EMPTY, "point of nobody", -2, x -> x.point(0, 0));
        no(EMPTY, "tell of nobody", -2, x -> x.tell(0, 0, 0));
    }

    private static void readAndEffect() {
        for (int test : NO_TEST) {
            no(SOME, "read a " + test, -2, x -> x.read(test, 1, 0));
            no(SOME, "read b " + test, -2, x -> x.read(0, test, 1));
            no(SOME, "read a and b " + test, -2, x -> x.read(test, test, 2));
            no(SOME, "read a and b and what " + test, -2, x -> x.read(test, test, 3));
            for (int what = 0; what < 5; what++) {
                int one = what;
                no(SOME, "effect " + what + " a " + test, -2, x -> x.effect(test, 1, one));
                no(SOME, "effect " + what + " b " + test, -2, x -> x.effect(0, test, one));
                no(SOME, "effect " + what + " a and b " + test, -2, x -> x.effect(test, test, one));
            }
            no(SOME, "effect 5 a " + test, -2, x -> x.effect(test, 1, 5));
        }
        for (int what : beyond(0, 2)) {
            no(SOME, "read what " + what, -2, x -> x.read(0, 1, what));
            no(SOME, "read a test itself what " + what, -2, x -> x.read(0, 0, what));
        }
        for (int what : beyond(0, 4)) {
            no(SOME, "effect what " + what, -2, x -> x.effect(0, 1, what));
            no(SOME, "effect of a test itself what " + what, -2, x -> x.effect(1, 1, what));
        }
        for (int test = 0; test < 6; test++) {
            int one = test;
            for (int what = 0; what < 5; what++) {
                int which = what;
                no(SOME, "effect of test " + test + " itself", -3, x -> x.effect(one, one, which));
            }
            for (int what = 0; what < 3; what++) {
                int which = what;
                no(SOME, "read of test " + test + " itself", -3, x -> x.read(one, one, which));
            }
        }
        no(EMPTY, "nobody read in a test itself", -3, x -> x.read(0, 0, 0));
        no(EMPTY, "effect on nobody of a test itself", -3, x -> x.effect(5, 5, 1));
        for (int what : beyond(0, 1)) {
            no(SOME, "looks " + what, -2, x -> x.looks(what));
            no(EMPTY, "no looks " + what, -2, x -> x.looks(what));
        }
    }

    /** grew, mean, fault, status and count answer that there is none, and count nothing. */
    private static void notCounted() {
        for (int child : NO_CHILD) {
            answers(SOME, "grew, child " + child, -1000, 0, x -> x.grew(child, 0, 1));
            answers(SOME, "grew, child " + child + " and no test", -1000, 0, x -> x.grew(child, 0, 6));
        }
        for (int test : NO_TEST) {
            answers(SOME, "grew a " + test, -1000, 0, x -> x.grew(0, test, 1));
            answers(SOME, "grew b " + test, -1000, 0, x -> x.grew(0, 0, test));
            answers(SOME, "grew a and b " + test, -1000, 0, x -> x.grew(0, test, test));
            answers(SOME, "mean a " + test, -1000000, 0, x -> x.mean(0, test, 1));
            answers(SOME, "mean b " + test, -1000000, 0, x -> x.mean(0, 0, test));
            answers(SOME, "mean a and b " + test, -1000000, 0, x -> x.mean(0, test, test));
        }
        answers(SOME, "grew, one that has no points in b", -1000, 0, x -> x.grew(0, 0, 2));
        answers(SOME, "grew, one that has no points in a", -1000, 0, x -> x.grew(0, 2, 0));
        answers(SOME, "grew of a test itself", -1000, 0, x -> x.grew(0, 1, 1));
        for (int room : beyond(0, 1)) {
            answers(SOME, "mean of room " + room, -1000000, 0, x -> x.mean(room, 0, 1));
            answers(SOME, "mean of room " + room + " in no test", -1000000, 0, x -> x.mean(room, 0, 6));
        }
        answers(SOME, "mean of no read ones", -1000000, 0, x -> x.mean(0, 0, 2));
        answers(SOME, "mean of a test itself", -1000000, 0, x -> x.mean(0, 1, 1));
        answers(EMPTY, "mean without rooms", -1000000, 0, x -> x.mean(0, 0, 1));
        answers(EMPTY, "grew of nobody", -1000, 0, x -> x.grew(0, 0, 1));
        for (int what : beyond(0, 1)) {
            answers(SOME, "fault " + what, -1, 0, x -> x.fault(what));
        }
        for (int what : beyond(1, 7)) {
            answers(SOME, "status " + what, -1, 0, x -> x.status(what));
        }
        for (int what : new int[] {-1, 11, 12, 15, 18, 19, 26, 27, 30, Integer.MIN_VALUE, Integer.MAX_VALUE}) {
            answers(SOME, "count " + what, -1, 0, x -> x.count(what));
        }
        for (int what = -10; what <= -2; what++) {
            int one = what;
            answers(SOME, "status of a code as it is answered", -1, 0, x -> x.status(one));
        }
    }

    private static void films() {
        for (int way : NO_WAY) {
            no(SOME, "film of way " + way, -2, x -> x.film(way, true, 0));
            no(SOME, "film of way " + way + " that saw 100", -2, x -> x.film(way, false, 100));
            no(FULL, "film 25 of way " + way, -2, x -> x.film(way, true, 0));
            no(FULL, "film 25 of way " + way + " that saw -1", -2, x -> x.film(way, true, -1));
            no(SOME, "hair of way " + way, -2, x -> x.hair(way, 0));
            no(SOME, "blind of way " + way, -2, x -> x.hair(way, 1));
            no(SOME, "hair 2 of way " + way, -2, x -> x.hair(way, 2));
        }
        for (int seen : beyond(0, 99)) {
            no(SOME, "film that saw " + seen, -3, x -> x.film(0, true, seen));
            no(FULL, "film 25 that saw " + seen, -3, x -> x.film(2, false, seen));
        }
        no(FULL, "film 25", -4, x -> x.film(0, true, 0));
        no(FULL, "film 25", -4, x -> x.film(2, false, 99));
        for (int what : beyond(0, 1)) {
            no(SOME, "hair " + what, -2, x -> x.hair(0, what));
            no(EMPTY, "hair without films " + what, -2, x -> x.hair(0, what));
        }
    }

    private static void marksAndTrials() {
        for (int child : NO_CHILD) {
            no(SOME, "mark of child " + child, -2, x -> x.mark(child, 0, 0));
            no(SOME, "mark 201 of child " + child, -2, x -> x.mark(child, 0, 201));
            no(SOME, "mark of child " + child + " in no test", -2, x -> x.mark(child, 6, 0));
        }
        for (int test : NO_TEST) {
            no(SOME, "mark in test " + test, -2, x -> x.mark(0, test, 0));
            no(SOME, "mark -1 in test " + test, -2, x -> x.mark(0, test, -1));
            no(FULL, "mark 41 in test " + test, -2, x -> x.mark(0, test, 0));
            no(SOME, "same in test " + test, -2, x -> x.same(test));
            no(EMPTY, "same, nobody, in test " + test, -2, x -> x.same(test));
        }
        for (int points : NO_POINTS) {
            no(SOME, "mark of " + points, -3, x -> x.mark(0, 0, points));
            no(FULL, "mark 41 of " + points, -3, x -> x.mark(0, 0, points));
        }
        no(FULL, "mark 41 of child 40", -2, x -> x.mark(40, 0, 0));
        no(FULL, "mark 41", -4, x -> x.mark(0, 0, 0));
        no(FULL, "mark 41", -4, x -> x.mark(39, 5, 200));
        no(EMPTY, "mark of nobody", -2, x -> x.mark(0, 0, 0));
        for (int weeks : beyond(0, 20)) {
            no(SOME, "trial of weeks " + weeks, -3, x -> x.trial(weeks, 0, 1, true));
            no(FULL, "trial 21 of weeks " + weeks, -3, x -> x.trial(weeks, 0, 1, true));
        }
        for (int effect : beyond(-999, 999)) {
            no(SOME, "trial of effect " + effect, -3, x -> x.trial(0, effect, 1, true));
            no(FULL, "trial 21 of effect " + effect, -3, x -> x.trial(0, effect, 1, false));
        }
        for (int size : beyond(1, 999)) {
            no(SOME, "trial of size " + size, -3, x -> x.trial(0, 0, size, true));
            no(FULL, "trial 21 of size " + size, -3, x -> x.trial(0, 0, size, false));
        }
        no(FULL, "trial 21", -4, x -> x.trial(0, -999, 1, true));
        no(FULL, "trial 21", -4, x -> x.trial(20, 999, 999, false));
    }

    private static void laws() {
        for (int law : beyond(0, 3)) {
            no(SOME, "keep " + law, -2, x -> x.keep(law));
            no(SOME, "fits law " + law, -2, x -> x.fits(law, 0, 1));
            no(SOME, "fits law " + law + " in no test", -2, x -> x.fits(law, 6, 1));
            no(SOME, "fits law " + law + " in a test itself", -2, x -> x.fits(law, 1, 1));
        }
        for (int law = 0; law < 4; law++) {
            int one = law;
            for (int test : NO_TEST) {
                no(SOME, "fits a " + test, -2, x -> x.fits(one, test, 1));
                no(SOME, "fits b " + test, -2, x -> x.fits(one, 0, test));
                no(SOME, "fits a and b " + test, -2, x -> x.fits(one, test, test));
            }
            no(SOME, "fits by law " + law + ", a test itself", -3, x -> x.fits(one, 1, 1));
            no(EMPTY, "fits by law " + law + " that isn't kept, a test itself", -3, x -> x.fits(one, 0, 0));
            no(EMPTY, "fits by law " + law + " that isn't kept", -5, x -> x.fits(one, 0, 1));
            if (law != 1) {
                no(SOME, "fits by law " + law + " that isn't kept", -5, x -> x.fits(one, 0, 1));
            }
        }
        for (int n : beyond(2, 40000)) {
            no(SOME, "needed for 1 in " + n, -3, x -> x.needed(n));
        }
        no(SOME, "needed for 1 in 0", -3, x -> x.needed(0));
    }

    private static void twoTests() {
        for (int test : NO_TEST) {
            no(SOME, "enough a " + test, -2, x -> x.enough(test, 1));
            no(SOME, "enough b " + test, -2, x -> x.enough(0, test));
            no(SOME, "enough a and b " + test, -2, x -> x.enough(test, test));
            no(SOME, "likely a " + test, -2, x -> x.likely(test, 1));
            no(SOME, "likely b " + test, -2, x -> x.likely(0, test));
            no(SOME, "likely a and b " + test, -2, x -> x.likely(test, test));
            no(SOME, "say a " + test, -2, x -> x.say(test, 1));
            no(SOME, "say b " + test, -2, x -> x.say(0, test));
            no(SOME, "say a and b " + test, -2, x -> x.say(test, test));
        }
        for (int test = 0; test < 6; test++) {
            int one = test;
            no(SOME, "enough, test " + test + " itself", -3, x -> x.enough(one, one));
            no(SOME, "likely, test " + test + " itself", -3, x -> x.likely(one, one));
            no(SOME, "say, test " + test + " itself", -3, x -> x.say(one, one));
            no(EMPTY, "enough for nobody, test " + test + " itself", -3, x -> x.enough(one, one));
            no(EMPTY, "likely without laws, test " + test + " itself", -3, x -> x.likely(one, one));
            no(EMPTY, "say of nobody, test " + test + " itself", -3, x -> x.say(one, one));
        }
    }

    private static void rows() {
        for (int row : beyond(0, 3)) {
            no(SOME, "row " + row, -2, x -> x.row(row, 0, 1));
            no(SOME, "row " + row + " of 41", -2, x -> x.row(row, 0, 41));
            no(SOME, "write to row " + row, -2, x -> x.write(row, 0, 1));
            no(SOME, "write 40 to row " + row, -2, x -> x.write(row, 40, 1));
        }
        for (int sort : beyond(0, 3)) {
            no(SOME, "row of sort " + sort, -2, x -> x.row(0, sort, 1));
            no(SOME, "row of sort " + sort + " with -1", -2, x -> x.row(0, sort, -1));
        }
        for (int n : beyond(0, 40)) {
            no(SOME, "row of " + n, -3, x -> x.row(0, 0, n));
            no(SOME, "missing row of " + n, -3, x -> x.row(3, 3, n));
        }
        for (int row = 0; row < 4; row++) {
            int one = row;
            for (int i : new int[] {0, -1, 39, 40, Integer.MIN_VALUE, Integer.MAX_VALUE}) {
                no(EMPTY, "write " + i + " to missing row " + row, -6, x -> x.write(one, i, 1));
            }
        }
        for (int i : beyond(0, 3)) {
            no(SOME, "write " + i + " of 4", -7, x -> x.write(0, i, 1));
        }
        for (int i : beyond(0, 39)) {
            no(FULL, "write " + i + " of 40", -7, x -> x.write(3, i, 1));
        }
    }

    private static void pours() {
        for (int row : beyond(0, 3)) {
            no(SOME, "pour row " + row, -2, x -> x.pour(row, 0));
            no(SOME, "pour row " + row + " into no test", -2, x -> x.pour(row, 6));
        }
        for (int test : NO_TEST) {
            no(SOME, "pour into test " + test, -2, x -> x.pour(0, test));
            no(SOME, "pour a missing row into test " + test, -2, x -> x.pour(3, test));
            no(SOME, "pour a short row into test " + test, -2, x -> x.pour(1, test));
            no(SOME, "pour a number of 201 into test " + test, -2, x -> x.pour(2, test));
        }
        for (int row = 0; row < 4; row++) {
            int one = row;
            no(EMPTY, "pour missing row " + row, -6, x -> x.pour(one, 0));
        }
        no(SOME, "pour a missing row", -6, x -> x.pour(3, 0));
        no(SOME, "pour a short row", -7, x -> x.pour(1, 0));
        no(SOME, "pour a number of 201", -3, x -> x.pour(2, 0));
        Supplier<BloomRooms> shortAndWrong = () -> {
            BloomRooms x = Schools.some();
            x.row(0, 3, 3);
            x.write(0, 0, 201);
            x.row(1, 3, 4);
            x.write(1, 0, -2);
            x.row(2, 3, 4);
            x.write(2, 3, Long.MAX_VALUE);
            x.row(3, 3, 4);
            x.write(3, 2, Long.MIN_VALUE);
            return x;
        };
        no(shortAndWrong, "pour a short row with a number of 201", -7, x -> x.pour(0, 0));
        no(shortAndWrong, "pour a number of -2", -3, x -> x.pour(1, 0));
        no(shortAndWrong, "pour the greatest number", -3, x -> x.pour(2, 1));
        no(shortAndWrong, "pour the least number", -3, x -> x.pour(3, 5));
    }

    private static void images() {
        for (int i : beyond(0, 1)) {
            no(SOME, "image " + i, -2, x -> x.image(i));
            no(SOME, "restore " + i, -2, x -> x.restore(i));
        }
        no(SOME, "restore one that wasn't made", -5, x -> x.restore(0));
        no(EMPTY, "restore 0, not made", -5, x -> x.restore(0));
        no(EMPTY, "restore 1, not made", -5, x -> x.restore(1));
    }
}
