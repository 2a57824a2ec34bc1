import java.util.Map;

/** Counts the answers of one test that are not the ones that are due, and feeds texts to an object. */
final class Due {
    private int wrong;
    private int asked;

    void is(String call, long got, long want) {
        asked++;
        if (got != want) {
            wrong++;
            System.out.println(call + " answered " + got + ", due is " + want);
        }
    }

    /** The latest FRACTION is this one. */
    void fraction(String call, BloomRooms x, long upper, long lower) {
        is(call + " upper", x.upper(), upper);
        is(call + " lower", x.lower(), lower);
    }

    /** Ends the test: exit code 1, if an answer was wrong. */
    void end() {
        System.out.println(asked + " answers looked at, " + wrong + " wrong");
        if (wrong > 0 || asked == 0) {
            System.exit(1);
        }
    }

    /** Each that is seen of an object is as wanted. */
    void seen(String call, Map<String, Long> got, Map<String, Long> want) {
        for (Map.Entry<String, Long> one : want.entrySet()) {
            Long is = got.get(one.getKey());
            is(call + ", then " + one.getKey(), is == null ? Long.MIN_VALUE : is, one.getValue());
        }
        is(call + ", then how much is seen", got.size(), want.size());
    }

    /** Feeds a text, filled up with blanks, and has it read: what text answers. */
    static int say(BloomRooms x, int what, String text) {
        feed(x, text);
        return x.text(what, text.length());
    }

    /** Feeds a text, filled up with blanks to twenty bytes or a multiple of that. */
    static void feed(BloomRooms x, String text) {
        StringBuilder full = new StringBuilder(text);
        while (full.length() % 20 != 0) {
            full.append(' ');
        }
        for (int i = 0; i < full.length(); i += 20) {
            x.feed(four(full, i), four(full, i + 4), four(full, i + 8), four(full, i + 12), four(full, i + 16));
        }
    }

    private static int four(CharSequence text, int i) {
        return text.charAt(i) << 24 | text.charAt(i + 1) << 16 | text.charAt(i + 2) << 8 | text.charAt(i + 3);
    }
}
