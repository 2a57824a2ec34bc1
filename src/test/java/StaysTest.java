import java.util.List;
import java.util.Map;
import java.util.function.Supplier;
import java.util.function.ToLongFunction;

/**
 * What a call that isn't refused changes, and that all else stays as it was: what is seen of an object that had the
 * call is held against what is seen of one that hadn't.
 */
public final class StaysTest {
    private static final Due due = new Due();

    private static final Supplier<BloomRooms> SOME = Schools::some;
    private static final List<Supplier<BloomRooms>> ALL = List.of(Schools::empty, Schools::some, Schools::full);

    /** What is reckoned from who is named, and how much each grew. */
    private static final String GROWN = "effect 0,effect 1,effect 3,paid";

    public static void main(String[] args) {
        questions();
        questionsOfTwoTests();
        fractions();
        children();
        texts();
        yearsAndTests();
        dealings();
        filmsMarksTrials();
        keptLaws();
        rows();
        images();
        firstOfItsKind();
        due.end();
    }

    /** Only what begins by one of the names changes, and by each of them something does; no names: nothing changes. */
    private static void changes(Supplier<BloomRooms> school, String call, String names, ToLongFunction<BloomRooms> made) {
        BloomRooms before = school.get();
        BloomRooms after = school.get();
        int last = Math.max(0, before.count(1) - 1);
        after.count(1);
        due.is(call + " is refused", made.applyAsLong(after) < -1 ? 1 : 0, 0);
        Map<String, Long> want = Seen.of(before, last);
        Map<String, Long> got = Seen.of(after, last);
        List<String> may = names.isEmpty() ? List.of() : List.of(names.split(","));
        for (String name : may) {
            boolean changed = false;
            for (String one : want.keySet()) {
                changed = changed || begins(one, name) && !want.get(one).equals(got.get(one));
            }
            due.is(call + " changes " + name, changed ? 1 : 0, 1);
        }
        for (Map.Entry<String, Long> one : want.entrySet()) {
            if (may.stream().noneMatch(name -> begins(one.getKey(), name))) {
                Long now = got.get(one.getKey());
                due.is(call + ", then " + one.getKey(), now == null ? Long.MIN_VALUE : now, one.getValue());
            }
        }
    }

    private static boolean begins(String one, String name) {
        return one.equals(name) || one.startsWith(name + " ");
    }

    /** The same for a call that answers whatever it does: nothing changes. */
    private static void stays(String call, ToLongFunction<BloomRooms> asked) {
        for (Supplier<BloomRooms> school : ALL) {
            BloomRooms before = school.get();
            BloomRooms after = school.get();
            asked.applyAsLong(after);
            due.seen(call, Seen.of(after), Seen.of(before));
        }
    }

    /** Asked of those that are there, so that none is refused. */
    private static void questions() {
        for (int what = 0; what <= 6; what++) {
            int one = what;
            stays("of " + what, x -> x.count(1) > 0 ? x.of(0, one) : 0);
        }
        for (int way = 0; way < 3; way++) {
            int one = way;
            stays("given " + way, x -> x.count(1) > 0 ? x.given(x.count(1) - 1, one) : 0);
        }
        for (int what = -1; what <= 2; what++) {
            int one = what;
            stays("fault " + what, x -> x.fault(one));
        }
        for (int test = 0; test < 6; test++) {
            int one = test;
            stays("point in test " + test, x -> x.count(1) > 0 ? x.point(0, one) : 0);
        }
        stays("sure", x -> x.sure());
        stays("upper", x -> x.upper());
        stays("lower", x -> x.lower());
        stays("looks", x -> x.looks(0));
        stays("best", x -> x.looks(1));
        stays("needed", x -> x.needed(2) + x.needed(924) + x.needed(40000));
        for (int what = -1; what <= 8; what++) {
            int one = what;
            stays("status " + what, x -> x.status(one));
        }
        for (int what = -1; what <= 26; what++) {
            int one = what;
            stays("count " + what, x -> x.count(one));
        }
    }

    private static void questionsOfTwoTests() {
        int[][] pairs = {{0, 1}, {1, 0}, {0, 2}, {4, 5}};
        for (int[] pair : pairs) {
            int a = pair[0];
            int b = pair[1];
            String of = " of " + a + " and " + b;
            for (int what = 0; what <= 2; what++) {
                int one = what;
                stays("read " + what + of, x -> x.read(a, b, one));
            }
            stays("grew" + of, x -> x.grew(0, a, b) + x.grew(3, a, b));
            stays("mean" + of, x -> x.mean(0, a, b) + x.mean(1, a, b));
            stays("enough" + of, x -> x.enough(a, b));
            stays("likely" + of, x -> x.likely(a, b));
            stays("say" + of, x -> x.say(a, b));
        }
        changes(SOME, "fits", "", x -> x.fits(1, 0, 1));
        changes(SOME, "fits the other way", "", x -> x.fits(1, 1, 0));
        changes(Schools::full, "fits", "", x -> x.fits(3, 0, 1));
    }

    /** These change the FRACTION alone: it is theirs then. */
    private static void fractions() {
        for (int what = 0; what <= 4; what++) {
            int one = what;
            fraction("effect " + what, x -> x.effect(0, 1, one));
            fraction("effect " + what + " the other way", x -> x.effect(1, 0, one));
            fraction("effect " + what + " of none", x -> x.effect(4, 5, one));
        }
        fraction("paid", x -> x.paid());
        for (int way = 0; way < 3; way++) {
            int one = way;
            fraction("hair " + way, x -> x.hair(one, 0));
            fraction("blind " + way, x -> x.hair(one, 1));
        }
        fraction("carried", x -> x.carried());
        fraction("same", x -> x.same(0));
        fraction("same in another test", x -> x.same(3));
        for (int n = 0; n < 4; n++) {
            boolean printed = n % 2 == 1;
            boolean most = n / 2 == 1;
            fraction("curve", x -> x.curve(printed));
            fraction("edge", x -> x.edge(printed, most));
        }
    }

    private static void fraction(String call, ToLongFunction<BloomRooms> made) {
        for (Supplier<BloomRooms> school : ALL) {
            BloomRooms x = school.get();
            BloomRooms after = school.get();
            long answer = made.applyAsLong(after);
            due.is(call + " above 0", after.lower() > 0 ? 1 : 0, answer);
            due.is(call + " in thousandths", after.sure(), answer == 0 ? 0 : 1000 * after.upper() / after.lower());
            Map<String, Long> want = Seen.of(x);
            want.put("latest upper", after.upper());
            want.put("latest lower", after.lower());
            due.seen(call, Seen.of(after), want);
        }
    }

    private static void children() {
        changes(SOME, "room", "count 0,mean of the last room", x -> x.room(7, true));
        // the ROWS have four numbers now for five children
        changes(SOME, "child", "count 1,row", x -> x.child(1, 2, 33));
        changes(SOME, "word", "count 9,of 1,given 1,effect 0,effect 1,effect 2,effect 3,paid,same", x -> x.word(1, 1));
        changes(SOME, "word in place of another one", "of 2,given 2,fits,read by the tape's rules", x -> x.word(2, 0));
        changes(SOME, "the word it has", "", x -> x.word(0, 1));
        changes(SOME, "gone", "count 10,of 2 4", x -> x.gone(2));
        changes(SOME, "word of one that is gone", "of 3 3,read by the tape's rules", x -> x.word(3, 4));
        changes(SOME, "gone, a named one", "count 10,of 0 4", x -> x.gone(0));
    }

    private static void texts() {
        changes(SOME, "feed", "bytes,tape,tape's fault,tape's place,read by the tape's rules", x -> x.feed(1, 2, 3, 4, 5));
        String tape = "fault,place,bytes,tape,tape's rules,read by the tape's rules,";
        changes(SOME, "a law", tape + "count 3,of 0 5,of 0 6,given 0,of 2 5,of 2 6,given 2,carried", x -> x.text(0, 0));
        changes(SOME, "rules", tape + "count 4,read,mean,effect 0,effect 3,enough,fits", x -> x.text(1, 0)
                + Due.say(x, 1, "out if grade 4;out if told;"));
        changes(SOME, "the rules that there were", "fault,place,bytes,tape,tape's rules,read by the tape's rules",
                x -> x.text(1, 0) + Due.say(x, 1, "out if grade 4 and above 100;"));
    }

    private static void yearsAndTests() {
        changes(SOME, "year", "count 2,of 0 2,of 1 2", x -> x.year());
        changes(SOME, "give", "point 3 1,read,mean,effect 0,effect 3,fits,read by the tape's rules",
                x -> x.give(1, 5, true));
        changes(SOME, "give another test", "point 0 5,point 1 5,point 2 5,count 25,paid", x -> x.give(5, 5, true));
        changes(SOME, "tell", "point 1 1,mean of the first room,say,enough,fits," + GROWN, x -> x.tell(1, 1, 99));
        changes(SOME, "tell none", "point 1 0,read,mean of the first room,same,effect 2,fits,"
                + "read by the tape's rules," + GROWN, x -> x.tell(1, 0, -1) + x.tell(2, 0, -1) + x.tell(2, 0, 69));
        changes(SOME, "tell what it was", "", x -> x.tell(1, 1, 64));
        changes(SOME, "tell in another test", "point 2 4", x -> x.tell(2, 4, 0));
    }

    private static void dealings() {
        changes(SOME, "deal by children", "of 0,given 0,of 1,given 1,enough,same,fits," + GROWN,
                x -> x.deal(false, 1, 3));
        changes(SOME, "deal by rooms", "count 9,of 0,given 0,effect 4,best,say,enough,same,fits," + GROWN,
                x -> x.deal(true, 0, 3));
        changes(SOME, "deal to all", "count 9,of 1,given 1,effect 0,effect 1,effect 2,effect 3,paid,same",
                x -> x.deal(false, 40, 3));
    }

    private static void filmsMarksTrials() {
        changes(SOME, "film", "count 5,hair 0,blind,carried,enough", x -> x.film(0, true, 50));
        changes(SOME, "film of the last way", "count 5", x -> x.film(2, true, 50));
        changes(SOME, "mark", "count 6,same", x -> x.mark(1, 0, 1));
        changes(SOME, "mark in another test", "count 6", x -> x.mark(1, 5, 1));
        changes(SOME, "trial", "count 7,curve,curve of printed ones,edge", x -> x.trial(9, 9, 9, true));
        changes(SOME, "trial that isn't printed", "count 7,curve,edge", x -> x.trial(9, 9, 9, false));
    }

    private static void keptLaws() {
        changes(SOME, "keep", "fits 0,likely", x -> x.keep(0));
        changes(SOME, "keep behind a kept one", "fits 3", x -> x.keep(3));
        changes(SOME, "keep in place of another one", "", x -> x.keep(1));
        changes(SOME, "keep another one in its place", "fault,place,bytes,tape,tape's rules,read by the tape's rules,"
                + "count 3,of 0 5,of 0 6,given 0,of 2 5,of 2 6,given 2,carried,fits 1", x -> x.text(0, 0) + x.keep(1));
    }

    private static void rows() {
        // test 4 has what was poured before until the next row is poured
        changes(SOME, "row in place of another one", "row", x -> x.row(0, 3, 40));
        changes(SOME, "row behind all others", "row 3", x -> x.row(3, 0, 3));
        changes(SOME, "write", "row 0 point 1,row 1 point 1,row 2 point 1,row 3 point 1", x -> x.write(0, 1, 91));
        changes(SOME, "write what is there", "", x -> x.write(0, 1, 90 + 65536));
        changes(SOME, "pour", "point 0 1,point 1 1,point 2 1,point 3 1,mean of the first room,"
                + "mean of the last room,effect 4,say,enough,fits," + GROWN, x -> x.pour(0, 1));
        changes(SOME, "pour into another test", "point 0 5,point 1 5,point 2 5,point 3 5,paid", x -> x.pour(0, 5));
    }

    private static void images() {
        changes(SOME, "the first image", "image 0", x -> x.image(0));
        changes(SOME, "an image in place of another one", "image 1", x -> x.image(1));
        for (Supplier<BloomRooms> school : ALL) {
            changes(school, "an image gone on from", "image 0", x -> x.image(0) + x.give(5, 3, true) + x.restore(0));
        }
        changes(SOME, "restore", "count,of,point,read,mean,effect 0,effect 1,effect 3,effect 4,best,paid,say,hair,blind,"
                + "carried,enough,same,curve,curve of printed ones,edge,fits,likely,given 2,read by the tape's rules",
                x -> x.restore(1));
    }

    /** The first one of its kind changes no more than the next ones do. */
    private static void firstOfItsKind() {
        first("word", "count 9,of 1,given 1,same,fits,read by the tape's rules," + GROWN, x -> x.word(1, 5));
        first("gone", "count 10,of 2 4", x -> x.gone(2));
        first("year", "count 2,of 0 2,of 1 2,of 2,given 2", x -> x.year());
        first("give", "count 21,point 3 1,read,mean of the last room,effect 0,effect 3,fits,read by the tape's rules",
                x -> x.give(1, 5, true));
        first("tell", "point 1 1,mean of the first room,say,enough,fits," + GROWN, x -> x.tell(1, 1, 99));
        first("film", "count 5", x -> x.film(0, true, 50));
        first("mark", "count 6", x -> x.mark(1, 0, 1));
        first("trial", "count 7", x -> x.trial(9, 9, 9, true));
        first("keep", "fits 0,likely", x -> x.keep(0));
        first("row", "row", x -> x.row(0, 3, 40));
        first("image", "image 0", x -> x.image(0));
    }

    private static void first(String call, String names, ToLongFunction<BloomRooms> made) {
        changes(() -> Schools.without(call), "the first " + call, names, made);
    }
}
