import java.util.LinkedHashMap;
import java.util.Map;

/**
 * All that can be seen of an object, each by its name. What is asked is always asked in the same order, so that two
 * objects that had the same calls show the same. It takes some 280 of the 512 calls, and leaves the object changed.
 */
final class Seen {
    private final BloomRooms x;
    private final Map<String, Long> all = new LinkedHashMap<>();

    private Seen(BloomRooms x) {
        this.x = x;
    }

    static Map<String, Long> of(BloomRooms x) {
        return of(x, Math.max(0, x.count(1) - 1));
    }

    /** What is seen of CHILDREN is that of the first three and of one more. */
    static Map<String, Long> of(BloomRooms x, int last) {
        Seen seen = new Seen(x);
        seen.fraction("latest", 1);
        for (int what = 1; what <= 7; what++) {
            seen.put("status " + what, x.status(what));
        }
        seen.put("fault", x.fault(0));
        seen.put("place", x.fault(1));
        seen.put("bytes", x.count(8));
        seen.counts("");
        for (int c : new int[] {0, 1, 2, last}) {
            seen.child(c);
        }
        seen.whatWasGrown();
        seen.filmsMarksTrials();
        seen.laws();
        for (int row = 0; row < 4; row++) {
            seen.row(row, last);
        }
        seen.tape();
        for (int i = 0; i < 2; i++) {
            seen.image(i, last);
        }
        return seen.all;
    }

    private void put(String name, long value) {
        all.put(name, value);
    }

    private void fraction(String name, int answer) {
        put(name, answer);
        put(name + " upper", x.upper());
        put(name + " lower", x.lower());
    }

    private void counts(String when) {
        for (int what = 0; what <= 25; what++) {
            if (what < 8 || what == 9 || what == 10 || what >= 20) {
                put(when + "count " + what, x.count(what));
            }
        }
    }

    private void child(int c) {
        for (int what = 0; what <= 6; what++) {
            put("of " + c + " " + what, x.of(c, what));
        }
        for (int way = 0; way < 3; way++) {
            put("given " + c + " " + way, x.given(c, way));
        }
        for (int test = 0; test < 6; test++) {
            put("point " + c + " " + test, x.point(c, test));
        }
    }

    private void whatWasGrown() {
        put("read", x.read(0, 1, 0));
        put("mean of the first room", x.mean(0, 0, 1));
        put("mean of the last room", x.mean(x.count(0) - 1, 0, 1));
        for (int what = 0; what <= 4; what++) {
            fraction("effect " + what, x.effect(0, 1, what));
        }
        put("best", x.looks(1));
        fraction("paid", x.paid());
        put("say", x.say(0, 1));
    }

    private void filmsMarksTrials() {
        for (int way = 0; way < 3; way++) {
            fraction("hair " + way, x.hair(way, 0));
        }
        fraction("blind", x.hair(0, 1));
        fraction("carried", x.carried());
        put("enough", x.enough(0, 1));
        fraction("same", x.same(0));
        fraction("curve", x.curve(false));
        fraction("curve of printed ones", x.curve(true));
        fraction("edge", x.edge(false, true));
    }

    private void laws() {
        for (int law = 0; law < 4; law++) {
            put("fits " + law, x.fits(law, 0, 1));
        }
        put("likely", x.likely(0, 1));
    }

    /** A missing ROW answers -6, a short one -7; a number beyond 32 bits tells the sort. */
    private void row(int row, int last) {
        put("row " + row + " poured", x.pour(row, 4));
        for (int c : new int[] {0, 1, last}) {
            put("row " + row + " point " + c, x.point(c, 4));
        }
        for (int i : new int[] {0, 3, 39}) {
            put("row " + row + " write " + i, x.write(row, i, 0x1234567890L));
        }
    }

    private void tape() {
        put("tape", x.text(1, x.count(8)));
        put("tape's fault", x.fault(0));
        put("tape's place", x.fault(1));
        put("tape's rules", x.count(4));
        put("read by the tape's rules", x.read(0, 1, 0));
    }

    private void image(int i, int last) {
        String name = "image " + i + " ";
        int answer = x.restore(i);
        put(name, answer);
        if (answer < 0) {
            return;
        }
        counts(name);
        for (int c : new int[] {0, last}) {
            for (int what = 2; what <= 6; what++) {
                put(name + "of " + c + " " + what, x.of(c, what));
            }
            put(name + "point " + c, x.point(c, 0));
            put(name + "grew " + c, x.grew(c, 0, 1));
        }
        put(name + "likely", x.likely(0, 1));
    }
}
