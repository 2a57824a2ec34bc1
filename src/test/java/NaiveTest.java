import java.util.List;

/** Many runs of calls, made by a row of numbers that is always the same, on the class and on Naive. */
public final class NaiveTest {
    private static final int RUNS = 400;
    private static final int CALLS = 512;

    private static final List<String> LAW_WORDS = List.of("named", "true", "bad", "marked", "heard", "warmth", "time",
            "harder", "moves", "gives", "grows", "known", "gift", "hears", "marks", "noise", "floor", "roof", ";", "-",
            "5", "99", "100", "201", "1000", "(", "!", "x", "\n", "out");
    private static final List<String> RULE_WORDS = List.of("out", "if", "or", "and", "not", "told", "room", "grade",
            "known", "below", "above", ";", "(", ")", "5", "18", "201", "0000", "-", "A", "gift");

    private static long state;
    private static int wrong;
    private static BloomRooms x;
    private static Naive y;
    private static int run;

    public static void main(String[] args) {
        int many = args.length > 0 ? Integer.parseInt(args[0]) : RUNS;
        int from = args.length > 1 ? Integer.parseInt(args[1]) : 0;
        for (run = from; run < from + many && wrong < 10; run++) {
            state = 88172645463325252L + 7919L * run;
            x = new BloomRooms();
            y = new Naive();
            int calls = 0;
            if (run % 3 > 0) {
                calls = start();
            }
            while (calls < CALLS - 40) {
                calls += call(some(54));
                calls += after();
            }
        }
        System.out.println(many + " runs, " + wrong + " answers wrong");
        if (wrong > 0) {
            System.exit(1);
        }
    }

    private static int some(int n) {
        state ^= state << 13;
        state ^= state >>> 7;
        state ^= state << 17;
        return (int) Long.remainderUnsigned(state >>> 11, n);
    }

    private static int between(int least, int most) {
        return least + some(most - least + 1);
    }

    /** Mostly within, now and then just outside or far away. */
    private static int about(int least, int most) {
        switch (some(75)) {
            case 0:
                return least - 1;
            case 1:
                return most + 1;
            case 2:
                return new int[] {Integer.MIN_VALUE, Integer.MAX_VALUE, -1, 65536 + least, (int) state}[some(5)];
            default:
                return between(least, most);
        }
    }

    private static boolean maybe() {
        return some(2) == 0;
    }

    private static void same(String call, long got, long want) {
        if (got != want) {
            wrong++;
            System.out.println("run " + run + ": " + call + " answered " + got + ", Naive says " + want);
        }
    }

    private static int start() {
        int rooms = run % 5 == 0 ? 18 : between(1, 6);
        int children = run % 7 < 3 ? 40 : between(2, 12);
        int spread = run % 4 == 0 ? 200 : between(5, 60);
        int calls = 0;
        for (int i = 0; i < rooms; i++, calls++) {
            int weeks = run % 2 == 0 ? between(0, 5) : between(0, 20);
            boolean forgets = maybe();
            same("room", x.room(weeks, forgets), y.room(weeks, forgets));
        }
        for (int i = 0; i < children; i++, calls++) {
            int room = some(rooms);
            int grade = between(1, 6);
            int gift = Math.min(200, 200 - spread + some(spread + 1));
            same("child", x.child(room, grade, gift), y.child(room, grade, gift));
        }
        calls += text(0, law());
        for (int i = 0; i < 3; i++) {
            calls += call(20) + call(16) + call(18);
        }
        return calls;
    }

    private static int after() {
        same("status 1", x.status(1), y.status(1));
        same("upper", x.upper(), y.upper());
        same("lower", x.lower(), y.lower());
        same("sure", x.sure(), y.sure());
        return 4;
    }

    private static String law() {
        StringBuilder text = new StringBuilder();
        int lines = some(12) == 0 ? between(28, 33) : between(0, 14);
        for (int i = 0; i < lines; i++) {
            int kind = some(10);
            if (kind < 4) {
                text.append(LAW_WORDS.get(some(5))).append(" moves ").append(maybe() ? "" : "-").append(about(0, 99));
            } else if (kind < 7) {
                text.append(LAW_WORDS.get(between(5, 7))).append(" gives ").append(between(0, 99)).append(" grows ")
                        .append(about(0, 99));
            } else {
                int which = between(11, 17);
                int most = which == 11 ? 12 : which < 15 ? 50 : which == 15 ? 20 : 200;
                text.append(LAW_WORDS.get(which)).append(' ').append(which == 16 ? some(90) : which == 17
                        ? about(100, most) : about(0, most));
            }
            text.append(blank()).append(';').append(blank());
        }
        return cut(spoil(text, LAW_WORDS));
    }

    private static String rules() {
        StringBuilder text = new StringBuilder();
        int many = some(10) == 0 ? between(11, 14) : between(0, 3);
        for (int i = 0; i < many; i++) {
            text.append("out if ");
            test(text, many > 10 ? 3 : 0);
            text.append(blank()).append(';').append(blank());
        }
        return cut(spoil(text, RULE_WORDS));
    }

    private static void test(StringBuilder text, int depth) {
        fact(text, depth);
        for (int i = some(3); i > 0; i--) {
            text.append(maybe() ? " and " : " or ");
            fact(text, depth);
        }
    }

    private static void fact(StringBuilder text, int depth) {
        int kind = some(depth < 3 ? 10 : 6);
        if (kind >= 8) {
            text.append("not ");
            fact(text, depth + 1);
        } else if (kind >= 6) {
            text.append('(');
            test(text, depth + 1);
            text.append(')');
        } else if (kind == 0) {
            text.append("told");
        } else {
            text.append(RULE_WORDS.get(5 + kind)).append(' ');
            text.append(kind == 1 ? about(0, 17) : kind == 2 ? about(1, 6) : kind == 3 ? about(0, 20)
                    : kind == 4 ? between(0, 120) : between(120, 200));
        }
    }

    private static String blank() {
        return some(4) == 0 ? " \n" : some(3) == 0 ? " " : "";
    }

    /** Now and then something is put in, taken out, or a row of not and ( comes before. */
    private static StringBuilder spoil(StringBuilder text, List<String> words) {
        if (some(4) == 0) {
            int at = some(text.length() + 1);
            text.insert(at, " " + words.get(some(words.size())) + " ");
        }
        if (some(8) == 0 && text.length() > 0) {
            int at = some(text.length());
            text.deleteCharAt(at);
        }
        if (some(8) == 0) {
            int at = text.indexOf("if ");
            StringBuilder deep = new StringBuilder();
            int open = 0;
            for (int i = between(5, 10); i > 0; i--) {
                boolean not = maybe();
                deep.append(not ? " not " : "(");
                open += not ? 0 : 1;
            }
            if (at >= 0) {
                deep.append("told").append(")".repeat(open)).append(" and ");
                text.insert(at + 3, deep);
            }
        }
        return text;
    }

    private static String cut(StringBuilder text) {
        if (text.length() <= 400) {
            return text.toString();
        }
        int end = text.lastIndexOf(";", 399);
        return text.substring(0, end < 0 ? 400 : end + 1);
    }

    private static int text(int what, String text) {
        StringBuilder full = new StringBuilder(text);
        while (full.length() % 20 != 0) {
            full.append((char) some(256));
        }
        int calls = 1;
        for (int i = 0; i < full.length(); i += 20, calls++) {
            int[] n = new int[5];
            for (int k = 0; k < 20; k++) {
                n[k / 4] = n[k / 4] << 8 | full.charAt(i + k);
            }
            same("feed", x.feed(n[0], n[1], n[2], n[3], n[4]), y.feed(n[0], n[1], n[2], n[3], n[4]));
        }
        int length = some(15) == 0 ? between(-1, full.length() + 1) : text.length();
        same("text " + what + " " + length + ": " + text, x.text(what, length), y.text(what, length));
        same("fault 0 of " + text, x.fault(0), y.fault(0));
        same("fault 1 of " + text, x.fault(1), y.fault(1));
        return calls + 2;
    }

    private static int child() {
        return about(0, Math.max(0, y.count(1) - 1));
    }

    private static int test() {
        return about(0, 5);
    }

    private static int call(int which) {
        int a = test();
        int b = some(30) == 0 ? a : (a + between(1, 5)) % 6;
        int c = child();
        boolean yes = maybe();
        switch (which) {
            case 0: {
                int weeks = about(0, 20);
                same("room", x.room(weeks, yes), y.room(weeks, yes));
                return 1;
            }
            case 1: case 2: {
                int room = about(0, Math.max(0, y.count(0) - 1));
                int grade = about(1, 6);
                int gift = about(0, 200);
                same("child", x.child(room, grade, gift), y.child(room, grade, gift));
                return 1;
            }
            case 3: case 4: {
                int word = some(run % 2 == 0 ? 2 : 6) == 0 ? about(0, 5) : some(3) == 0 ? 0 : some(2) + 1;
                same("word", x.word(c, word), y.word(c, word));
                return 1;
            }
            case 5:
                if (some(4) > 0) {
                    return 0;
                }
                same("gone", x.gone(c), y.gone(c));
                return 1;
            case 6: case 7: {
                for (int what = -1; what < 8; what++) {
                    same("of " + what, x.of(c, what), y.of(c, what));
                }
                return 9;
            }
            case 8: {
                int way = about(0, 2);
                same("given", x.given(c, way), y.given(c, way));
                return 1;
            }
            case 9:
                if (some(3) > 0) {
                    return 0;
                }
                same("feed", x.feed(run, a, -1, 7, c), y.feed(run, a, -1, 7, c));
                return 1;
            case 10:
                return some(2) == 0 ? text(0, law()) : 0;
            case 11: case 12:
                return text(1, rules());
            case 13: {
                int what = about(0, 1);
                same("fault", x.fault(what), y.fault(what));
                return 1;
            }
            case 14: case 15:
                if (some(4) > 0) {
                    return 0;
                }
                same("year", x.year(), y.year());
                return 1;
            case 16: case 17: {
                int seed = (int) state;
                same("give", x.give(a, seed, yes), y.give(a, seed, yes));
                return 1;
            }
            case 18: case 19: {
                int many = maybe() ? between(0, 3) : about(0, 40);
                int seed = (int) state;
                same("deal", x.deal(yes, many, seed), y.deal(yes, many, seed));
                return 1;
            }
            case 20: case 21: {
                int n = 0;
                for (int i = 0; i < y.count(1) && n < 12; i += 1 + some(4), n++) {
                    int points = some(10) == 0 ? about(-1, 200) : maybe() ? 80 + some(40) : between(0, 200);
                    same("tell", x.tell(i, a, points), y.tell(i, a, points));
                }
                return n;
            }
            case 22:
                same("point", x.point(c, a), y.point(c, a));
                return 1;
            case 23: case 24: {
                int what = about(0, 2);
                same("read " + what, x.read(a, b, what), y.read(a, b, what));
                return 1;
            }
            case 25:
                same("grew", x.grew(c, a, b), y.grew(c, a, b));
                return 1;
            case 26: case 27: case 28: case 29: {
                int what = about(0, 4);
                same("effect " + what, x.effect(a, b, what), y.effect(a, b, what));
                return 1;
            }
            case 30: {
                int what = about(0, 1);
                same("looks", x.looks(what), y.looks(what));
                return 1;
            }
            case 31:
                same("paid", x.paid(), y.paid());
                return 1;
            case 32: {
                int room = about(0, Math.max(0, y.count(0) - 1));
                same("mean", x.mean(room, a, b), y.mean(room, a, b));
                return 1;
            }
            case 33: case 34: {
                int way = about(0, 2);
                int seen = about(0, 99);
                same("film", x.film(way, yes, seen), y.film(way, yes, seen));
                return 1;
            }
            case 35: {
                int way = about(0, 2);
                int what = about(0, 1);
                same("hair " + what, x.hair(way, what), y.hair(way, what));
                return 1;
            }
            case 36:
                same("carried", x.carried(), y.carried());
                return 1;
            case 37:
                same("enough", x.enough(a, b), y.enough(a, b));
                return 1;
            case 38: case 39: {
                int points = about(0, 200);
                same("mark", x.mark(c, a, points), y.mark(c, a, points));
                return 1;
            }
            case 40:
                same("same", x.same(a), y.same(a));
                return 1;
            case 41: {
                int weeks = about(0, 20);
                int effect = about(-999, 999);
                int size = about(1, 999);
                same("trial", x.trial(weeks, effect, size, yes), y.trial(weeks, effect, size, yes));
                return 1;
            }
            case 42:
                same("curve", x.curve(yes), y.curve(yes));
                return 1;
            case 43: {
                boolean most = maybe();
                same("edge", x.edge(yes, most), y.edge(yes, most));
                return 1;
            }
            case 44: {
                int law = about(0, 3);
                same("keep", x.keep(law), y.keep(law));
                return 1;
            }
            case 45: {
                int law = about(0, 3);
                same("fits", x.fits(law, a, b), y.fits(law, a, b));
                return 1;
            }
            case 46:
                same("likely", x.likely(a, b), y.likely(a, b));
                return 1;
            case 47: {
                if (some(5) > 0) {
                    return 0;
                }
                int n = maybe() ? about(2, 40000) : about(2, 80);
                same("needed " + n, x.needed(n), y.needed(n));
                return 1;
            }
            case 48: case 49:
                same("say", x.say(a, b), y.say(a, b));
                return 1;
            case 50: {
                int row = about(0, 3);
                int sort = about(0, 3);
                int n = maybe() ? y.count(1) : about(0, 40);
                same("row", x.row(row, sort, n), y.row(row, sort, n));
                int calls = 1;
                for (int i = 0; i < n && calls < 8; i += 1 + some(3), calls++) {
                    long v = some(30) == 0 ? state : sort == 0 ? some(128) : between(0, 200);
                    same("write", x.write(row, i, v), y.write(row, i, v));
                }
                same("pour", x.pour(row, a), y.pour(row, a));
                return calls + 1;
            }
            case 51: {
                int i = about(0, 1);
                same("image", x.image(i), y.image(i));
                return 1;
            }
            case 52: {
                int i = about(0, 1);
                if (some(3) > 0) {
                    return 0;
                }
                same("restore", x.restore(i), y.restore(i));
                return 1;
            }
            default: {
                int what = maybe() ? about(0, 10) : about(20, 25);
                same("count " + what, x.count(what), y.count(what));
                int code = about(1, 7);
                same("status " + code, x.status(code), y.status(code));
                return 2;
            }
        }
    }
}
