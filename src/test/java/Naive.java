import java.math.BigInteger;
import java.util.ArrayList;
import java.util.HashMap;
import java.util.List;
import java.util.Map;
import java.util.TreeMap;
import java.util.regex.Matcher;
import java.util.regex.Pattern;

/** The document once more, in the plainest way and with all of the Java library, to hold the class against. */
final class Naive {
    static final class Room { int weeks; boolean forgets; }

    static final class Child { int room; int grade; int gift; int word; boolean gone; }

    static final class Law {
        int[] moves = new int[6];
        int[] gives = new int[3];
        int[] grows = new int[3];
        Map<String, Integer> others = new HashMap<>(Map.of("known", 0, "gift", 0, "hears", 0, "marks", 0,
                "noise", 0, "floor", 0, "roof", 200));
        int lines;

        int n(String what) { return others.get(what); }
    }

    interface Fact { boolean holds(Child child, int points, List<Room> rooms); }

    /** Upper and lower; null stands for 0 over 0. */
    record Part(BigInteger up, BigInteger low) {
        static Part of(long up, long low) { return of(BigInteger.valueOf(up), BigInteger.valueOf(low)); }

        static Part of(BigInteger up, BigInteger low) {
            if (low.signum() == 0) return null;
            BigInteger g = up.gcd(low);
            if (low.signum() < 0) g = g.negate();
            return new Part(up.divide(g), low.divide(g));
        }

        Part less(Part o) { return of(up.multiply(o.low).subtract(o.up.multiply(low)), low.multiply(o.low)); }

        Part plus(Part o) { return of(up.multiply(o.low).add(o.up.multiply(low)), low.multiply(o.low)); }

        int against(Part o) { return up.multiply(o.low).compareTo(o.up.multiply(low)); }
    }

    record One(int room, int value, boolean named) { }

    static final class Bad extends RuntimeException {
        final int kind;
        final int place;

        Bad(int kind, int place) {
            this.kind = kind;
            this.place = place;
        }
    }

    static final class All {
        List<Room> rooms = new ArrayList<>();
        List<Child> children = new ArrayList<>();
        int years;
        Map<Integer, Integer> points = new TreeMap<>(); // 100 test and child
        int[] testYears = new int[6];
        Law law = new Law();
        Law[] kept = new Law[4];
        List<Fact> rules = new ArrayList<>();
        List<int[]> films = new ArrayList<>();
        List<int[]> marks = new ArrayList<>();
        List<int[]> trials = new ArrayList<>();

        All twin() {
            All t = new All();
            t.rooms.addAll(rooms);
            for (Child c : children) {
                Child d = new Child();
                d.room = c.room;
                d.grade = c.grade;
                d.gift = c.gift;
                d.word = c.word;
                d.gone = c.gone;
                t.children.add(d);
            }
            t.years = years;
            t.points.putAll(points);
            t.testYears = testYears.clone();
            t.law = law;
            t.kept = kept.clone();
            t.rules = rules;
            t.films.addAll(films);
            t.marks.addAll(marks);
            t.trials.addAll(trials);
            return t;
        }
    }

    All w = new All();
    All[] images = new All[2];
    StringBuilder tape = new StringBuilder();
    int fault;
    int place = -1;
    Part latest;
    long[][] rows = new long[4][];
    int[] sorts = new int[4];
    int[] refused = new int[8];

    private int no(int code) {
        refused[-code]++;
        return code;
    }

    private boolean hasChild(int c) { return c >= 0 && c < w.children.size(); }

    private boolean hasTest(int t) { return t >= 0 && t < 6; }

    int room(int weeks, boolean forgets) {
        if (weeks < 0 || weeks > 20) return no(-3);
        if (w.rooms.size() == 18) return no(-4);
        Room r = new Room();
        r.weeks = weeks;
        r.forgets = forgets;
        w.rooms.add(r);
        return w.rooms.size() - 1;
    }

    int child(int room, int grade, int gift) {
        if (room < 0 || room >= w.rooms.size()) return no(-2);
        if (grade < 1 || grade > 6 || gift < 0 || gift > 200) return no(-3);
        if (w.children.size() == 40) return no(-4);
        Child c = new Child();
        c.room = room;
        c.grade = grade;
        c.gift = gift;
        w.children.add(c);
        return w.children.size() - 1;
    }

    int word(int child, int word) {
        if (!hasChild(child)) return no(-2);
        if (word < 0 || word > 5) return no(-3);
        int was = w.children.get(child).word;
        w.children.get(child).word = word;
        return was;
    }

    int gone(int child) {
        if (!hasChild(child)) return no(-2);
        if (w.children.get(child).gone) return no(-5);
        w.children.get(child).gone = true;
        return 0;
    }

    private int hold(Law law, Child c, int years) {
        Room r = w.rooms.get(c.room);
        int hold = law.moves[c.word] * Math.max(0, 100 - law.n("known") * r.weeks) / 100;
        return r.forgets && years >= 1 ? hold / 2 : hold;
    }

    private int grows(Law law, Child c, int years) {
        int sum = c.word == 5 ? law.n("hears") : 0;
        for (int way = 0; way < 3; way++) sum += hold(law, c, years) * law.gives[way] / 10 * law.grows[way] / 100;
        return sum;
    }

    int of(int child, int what) {
        if (!hasChild(child) || what < 0 || what > 6) {
            no(-2);
            return -1000;
        }
        Child c = w.children.get(child);
        return new int[] {c.room, c.grade, c.gift, c.word, c.gone ? 0 : 1, hold(w.law, c, w.years),
            grows(w.law, c, w.years)}[what];
    }

    int given(int child, int way) {
        if (!hasChild(child) || way < 0 || way > 2) {
            no(-2);
            return -1000;
        }
        return hold(w.law, w.children.get(child), w.years) * w.law.gives[way] / 10;
    }

    int feed(int a, int b, int c, int d, int e) {
        if (tape.length() > 380) return no(-4);
        for (int n : new int[] {a, b, c, d, e}) {
            for (int i = 3; i >= 0; i--) tape.append((char) (n >> 8 * i & 255));
        }
        return tape.length();
    }

    int text(int what, int n) {
        if (what < 0 || what > 1) return no(-2);
        if (n < 0 || n > tape.length()) return no(-3);
        String text = tape.substring(0, n);
        tape.setLength(0);
        fault = 0;
        place = -1;
        try {
            Parser p = new Parser(text);
            if (what == 0) {
                w.law = p.law();
                return w.law.lines;
            }
            w.rules = p.rules();
            return w.rules.size();
        } catch (Bad bad) {
            fault = bad.kind;
            place = bad.place;
            no(-1);
            return -10 - fault;
        }
    }

    /** Throws the first FAULT; a token is looked at only when all before it are right. */
    static final class Parser {
        private static final Pattern TOKEN = Pattern.compile("[a-z]+|[0-9]+|[;()-]");
        private final String text;
        private int at;
        private String token;

        Parser(String text) {
            this.text = text;
            next();
        }

        private void next() {
            at += token == null ? 0 : token.length();
            while (at < text.length() && (text.charAt(at) == ' ' || text.charAt(at) == '\n')) at++;
            if (at == text.length()) {
                token = "";
                return;
            }
            Matcher m = TOKEN.matcher(text).region(at, text.length());
            if (!m.lookingAt()) throw new Bad(1, at);
            token = m.group();
            if (token.matches("[0-9]{4,}")) throw new Bad(1, at);
        }

        private void want(String what) {
            if (!token.equals(what)) throw new Bad(2, at);
            next();
        }

        private int number(int least, int most) {
            if (!token.matches("[0-9]+")) throw new Bad(2, at);
            int n = Integer.parseInt(token);
            if (n < least || n > most) throw new Bad(3, at);
            next();
            return n;
        }

        Law law() {
            Law law = new Law();
            List<String> kinds = List.of("named", "true", "bad", "marked", "heard");
            List<String> ways = List.of("warmth", "time", "harder");
            Map<String, Integer> most = Map.of("known", 100, "gift", 50, "hears", 50, "marks", 50, "noise", 20,
                    "floor", 200, "roof", 200);
            while (!token.isEmpty()) {
                String start = token;
                if (!kinds.contains(start) && !ways.contains(start) && !most.containsKey(start)) throw new Bad(2, at);
                if (law.lines == 30) throw new Bad(4, at);
                next();
                if (kinds.contains(start)) {
                    want("moves");
                    int sign = 1;
                    if (token.equals("-")) {
                        sign = -1;
                        next();
                    }
                    law.moves[1 + kinds.indexOf(start)] = sign * number(0, 99);
                } else if (ways.contains(start)) {
                    want("gives");
                    law.gives[ways.indexOf(start)] = number(0, 99);
                    want("grows");
                    law.grows[ways.indexOf(start)] = number(0, 99);
                } else {
                    law.others.put(start, number(0, most.get(start)));
                }
                want(";");
                law.lines++;
            }
            return law;
        }

        List<Fact> rules() {
            List<Fact> rules = new ArrayList<>();
            while (!token.isEmpty()) {
                if (!token.equals("out")) throw new Bad(2, at);
                if (rules.size() == 12) throw new Bad(4, at);
                next();
                want("if");
                rules.add(test(0));
                want(";");
            }
            return rules;
        }

        private Fact test(int open) {
            Fact left = part(open);
            while (token.equals("or")) {
                next();
                Fact one = left;
                Fact other = part(open);
                left = (c, p, r) -> one.holds(c, p, r) || other.holds(c, p, r);
            }
            return left;
        }

        private Fact part(int open) {
            Fact left = fact(open);
            while (token.equals("and")) {
                next();
                Fact one = left;
                Fact other = fact(open);
                left = (c, p, r) -> one.holds(c, p, r) && other.holds(c, p, r);
            }
            return left;
        }

        private Fact fact(int open) {
            String start = token;
            int n;
            switch (start) {
                case "not": {
                    if (open == 8) throw new Bad(5, at);
                    next();
                    Fact inner = fact(open + 1);
                    return (c, p, r) -> !inner.holds(c, p, r);
                }
                case "(": {
                    if (open == 8) throw new Bad(5, at);
                    next();
                    Fact inner = test(open + 1);
                    want(")");
                    return inner;
                }
                case "told":
                    next();
                    return (c, p, r) -> c.word != 0 && c.word != 1;
                case "room":
                    next();
                    n = number(0, 17);
                    return (c, p, r) -> c.room == n;
                case "grade":
                    next();
                    n = number(1, 6);
                    return (c, p, r) -> c.grade == n;
                case "known":
                    next();
                    n = number(0, 20);
                    return (c, p, r) -> r.get(c.room).weeks >= n;
                case "below":
                    next();
                    n = number(0, 200);
                    return (c, p, r) -> p < n;
                case "above":
                    next();
                    n = number(0, 200);
                    return (c, p, r) -> p > n;
                default:
                    throw new Bad(2, at);
            }
        }
    }

    int fault(int what) { return what == 0 ? fault : what == 1 ? place : -1; }

    int year() {
        if (w.years == 6) return no(-5);
        for (Child c : w.children) {
            if (!c.gone) c.gift = Math.min(400, Math.max(0, c.gift + w.law.n("gift") + grows(w.law, c, w.years)));
        }
        return ++w.years;
    }

    private int draws;

    private int draw() {
        draws = 1103515245 * draws + 12345;
        return draws >>> 16;
    }

    int give(int test, int seed, boolean knew) {
        if (!hasTest(test)) return no(-2);
        draws = seed;
        int many = 0;
        for (int i = 0; i < w.children.size(); i++) {
            Child c = w.children.get(i);
            w.points.remove(100 * test + i);
            if (c.gone) continue;
            int p = c.gift + draw() % (2 * w.law.n("noise") + 1) - w.law.n("noise");
            if (knew && c.word == 4) p += w.law.n("marks");
            if (p > w.law.n("roof")) p = w.law.n("roof");
            if (p < w.law.n("floor")) p = w.law.n("floor");
            w.points.put(100 * test + i, Math.min(200, Math.max(0, p)));
            many++;
        }
        w.testYears[test] = w.years;
        return many;
    }

    private int points(int child, int test) { return w.points.getOrDefault(100 * test + child, -1); }

    int point(int child, int test) {
        if (!hasChild(child) || !hasTest(test)) return no(-2);
        return points(child, test);
    }

    int tell(int child, int test, int points) {
        if (!hasChild(child) || !hasTest(test)) return no(-2);
        if (points < -1 || points > 200) return no(-3);
        int was = points(child, test);
        w.points.put(100 * test + child, points);
        return was;
    }

    int deal(boolean byRooms, int many, int seed) {
        if (many < 0 || many > 40) return no(-3);
        if (w.rooms.isEmpty()) return no(-5);
        draws = seed;
        int roomsToName = Math.min(many, w.rooms.size());
        for (int r = 0; r < w.rooms.size(); r++) {
            List<Child> these = new ArrayList<>();
            for (Child c : w.children) if (c.room == r && !c.gone && c.word < 2) these.add(c);
            if (byRooms) {
                boolean yes = draw() % (w.rooms.size() - r) < roomsToName;
                if (yes) roomsToName--;
                for (Child c : these) c.word = yes ? 1 : 0;
            } else {
                int toName = Math.min(many, these.size());
                for (int i = 0; i < these.size(); i++) {
                    boolean yes = draw() % (these.size() - i) < toName;
                    if (yes) toName--;
                    these.get(i).word = yes ? 1 : 0;
                }
            }
        }
        return count(9);
    }

    private boolean isRead(int child, int a, int b) {
        if (points(child, a) < 0 || points(child, b) < 0) return false;
        for (Fact f : w.rules) if (f.holds(w.children.get(child), points(child, a), w.rooms)) return false;
        return true;
    }

    private boolean isEnd(int child, int a, int b) {
        int floor = w.law.n("floor");
        int roof = w.law.n("roof");
        return points(child, a) == floor || points(child, a) == roof || points(child, b) == floor
                || points(child, b) == roof;
    }

    private List<One> ones(int a, int b, boolean clean) {
        List<One> ones = new ArrayList<>();
        for (int i = 0; i < w.children.size(); i++) {
            Child c = w.children.get(i);
            if (!isRead(i, a, b) || clean && isEnd(i, a, b)) continue;
            ones.add(new One(c.room, points(i, b) - points(i, a), c.word == 1));
        }
        return ones;
    }

    int read(int a, int b, int what) {
        if (!hasTest(a) || !hasTest(b) || what < 0 || what > 2) return no(-2);
        if (a == b) return no(-3);
        if (what == 0) return ones(a, b, false).size();
        if (what == 1) return (int) ones(a, b, false).stream().filter(One::named).count();
        return ones(a, b, false).size() - ones(a, b, true).size();
    }

    int grew(int child, int a, int b) {
        if (!hasChild(child) || !hasTest(a) || !hasTest(b) || a == b || !isRead(child, a, b)) return -1000;
        return points(child, b) - points(child, a);
    }

    private static Part difference(List<One> ones) {
        Part named = mean(ones, true);
        Part others = mean(ones, false);
        return named == null || others == null ? null : named.less(others);
    }

    private static Part mean(List<One> ones, boolean named) {
        long sum = 0;
        long many = 0;
        for (One one : ones) {
            if (one.named == named) {
                sum += one.value;
                many++;
            }
        }
        return Part.of(sum, many);
    }

    /** All ways to name, by how many are named so far in the room and their sum so far. */
    private static Part anew(List<One> ones) {
        if (difference(ones) == null) return null;
        TreeMap<Integer, BigInteger> sums = new TreeMap<>(Map.of(0, BigInteger.ONE));
        int reached = 0;
        for (int r = 0; r < 18; r++) {
            TreeMap<Integer, BigInteger> here = new TreeMap<>(); // 100000 how many and 50000 and sum
            for (Map.Entry<Integer, BigInteger> e : sums.entrySet()) here.put(50000 + e.getKey(), e.getValue());
            int named = 0;
            for (One one : ones) {
                if (one.room != r) continue;
                if (one.named) {
                    named++;
                    reached += one.value;
                }
                TreeMap<Integer, BigInteger> then = new TreeMap<>(here);
                for (Map.Entry<Integer, BigInteger> e : here.entrySet()) {
                    then.merge(e.getKey() + 100000 + one.value, e.getValue(), BigInteger::add);
                }
                here = then;
            }
            sums = new TreeMap<>();
            for (Map.Entry<Integer, BigInteger> e : here.entrySet()) {
                if (e.getKey() / 100000 == named) sums.put(e.getKey() % 100000 - 50000, e.getValue());
            }
        }
        BigInteger all = BigInteger.ZERO;
        BigInteger as = BigInteger.ZERO;
        for (Map.Entry<Integer, BigInteger> e : sums.entrySet()) {
            all = all.add(e.getValue());
            if (e.getKey() >= reached) as = as.add(e.getValue());
        }
        return Part.of(as, all);
    }

    private int meanOf(List<One> ones, int room) {
        int sum = 0;
        int many = 0;
        for (One one : ones) {
            if (one.room == room) {
                sum += one.value;
                many++;
            }
        }
        return many == 0 ? -1000000 : 1000 * sum / many;
    }

    private Part anewByRooms(List<One> ones) {
        List<Integer> means = new ArrayList<>();
        int named = 0;
        int reached = 0;
        for (int r = 0; r < 18; r++) {
            if (meanOf(ones, r) == -1000000) continue;
            int less = 0;
            for (One one : ones) if (one.room == r) less += one.named ? 1 : -1;
            means.add(meanOf(ones, r));
            if (less > 0) {
                named++;
                reached += meanOf(ones, r);
            }
        }
        if (named == 0 || named == means.size()) return null;
        long all = 0;
        long as = 0;
        for (int set = 0; set < 1 << means.size(); set++) {
            if (Integer.bitCount(set) != named) continue;
            int sum = 0;
            for (int i = 0; i < means.size(); i++) if ((set >> i & 1) == 1) sum += means.get(i);
            all++;
            if (sum >= reached) as++;
        }
        return Part.of(as, all);
    }

    private int is(Part part) {
        latest = part;
        return part == null ? 0 : 1;
    }

    int effect(int a, int b, int what) {
        if (!hasTest(a) || !hasTest(b) || what < 0 || what > 4) return no(-2);
        if (a == b) return no(-3);
        Part effect = difference(ones(a, b, false));
        Part clean = difference(ones(a, b, true));
        switch (what) {
            case 0: return is(effect);
            case 1: return is(anew(ones(a, b, false)));
            case 2: return is(anewByRooms(ones(a, b, false)));
            case 3: return is(clean);
            default: return is(effect == null || clean == null ? null : effect.less(clean));
        }
    }

    int sure() {
        return latest == null ? 0 : latest.up.multiply(BigInteger.valueOf(1000)).divide(latest.low).intValueExact();
    }

    long upper() { return latest == null ? 0 : latest.up.longValueExact(); }

    long lower() { return latest == null ? 0 : latest.low.longValueExact(); }

    private int looks;
    private int best;

    private Part paidPart() {
        looks = 0;
        best = -1;
        Part least = null;
        for (int a = 0; a < 6; a++) {
            for (int b = a + 1; b < 6; b++) {
                if (difference(ones(a, b, false)) == null) continue;
                looks++;
                Part one = anew(ones(a, b, false));
                if (least == null || one.against(least) < 0) {
                    least = one;
                    best = 10 * a + b;
                }
            }
        }
        if (least == null) return null;
        Part paid = Part.of(least.up.multiply(BigInteger.valueOf(looks)), least.low);
        return paid.against(Part.of(1, 1)) > 0 ? Part.of(1, 1) : paid;
    }

    int looks(int what) {
        if (what < 0 || what > 1) return no(-2);
        paidPart();
        return what == 0 ? looks : best;
    }

    int paid() { return is(paidPart()); }

    int mean(int room, int a, int b) {
        if (room < 0 || room >= w.rooms.size() || !hasTest(a) || !hasTest(b) || a == b) return -1000000;
        return meanOf(ones(a, b, false), room);
    }

    int film(int way, boolean named, int seen) {
        if (way < 0 || way > 2) return no(-2);
        if (seen < 0 || seen > 99) return no(-3);
        if (w.films.size() == 24) return no(-4);
        w.films.add(new int[] {way, named ? 1 : 0, seen});
        return w.films.size();
    }

    private List<One> filmed(int way) {
        List<One> ones = new ArrayList<>();
        for (int[] f : w.films) if (f[0] == way) ones.add(new One(0, f[2], f[1] == 1));
        return ones;
    }

    int hair(int way, int what) {
        if (way < 0 || way > 2 || what < 0 || what > 1) return no(-2);
        return is(what == 0 ? difference(filmed(way)) : anew(filmed(way)));
    }

    private Part carriedPart() {
        Part sum = null;
        for (int way = 0; way < 3; way++) {
            Part hair = difference(filmed(way));
            if (hair == null) continue;
            Part one = Part.of(hair.up.multiply(BigInteger.valueOf(w.law.grows[way])),
                    hair.low.multiply(BigInteger.valueOf(100)));
            sum = sum == null ? one : sum.plus(one);
        }
        return sum;
    }

    int carried() { return is(carriedPart()); }

    int enough(int a, int b) {
        if (!hasTest(a) || !hasTest(b)) return no(-2);
        if (a == b) return no(-3);
        Part carried = carriedPart();
        Part effect = difference(ones(a, b, false));
        return carried == null || effect == null ? -1 : carried.against(effect) >= 0 ? 1 : 0;
    }

    int mark(int child, int test, int points) {
        if (!hasChild(child) || !hasTest(test)) return no(-2);
        if (points < 0 || points > 200) return no(-3);
        if (w.marks.size() == 40) return no(-4);
        w.marks.add(new int[] {child, test, points});
        return w.marks.size();
    }

    int same(int test) {
        if (!hasTest(test)) return no(-2);
        Map<Integer, Integer> latestMarks = new TreeMap<>();
        for (int[] m : w.marks) if (m[1] == test) latestMarks.put(m[0], m[2]);
        List<One> ones = new ArrayList<>();
        latestMarks.forEach((c, m) -> {
            if (points(c, test) >= 0) ones.add(new One(0, points(c, test) - m, w.children.get(c).word == 1));
        });
        return is(difference(ones));
    }

    int trial(int weeks, int effect, int size, boolean printed) {
        if (weeks < 0 || weeks > 20 || effect < -999 || effect > 999 || size < 1 || size > 999) return no(-3);
        if (w.trials.size() == 20) return no(-4);
        w.trials.add(new int[] {weeks, effect, size, printed ? 1 : 0});
        return w.trials.size();
    }

    private static Part slope(List<int[]> trials) {
        long all = 0;
        long s = 0;
        long e = 0;
        long se = 0;
        long ss = 0;
        for (int[] t : trials) {
            all += t[2];
            s += t[2] * t[0];
            e += t[2] * t[1];
            se += (long) t[2] * t[0] * t[1];
            ss += (long) t[2] * t[0] * t[0];
        }
        return Part.of(all * se - s * e, all * ss - s * s);
    }

    private List<int[]> chosen(boolean printed) {
        List<int[]> list = new ArrayList<>();
        for (int[] t : w.trials) if (!printed || t[3] == 1) list.add(t);
        return list;
    }

    int curve(boolean printed) { return is(slope(chosen(printed))); }

    int edge(boolean printed, boolean most) {
        Part edge = null;
        for (int i = 0; i < chosen(printed).size(); i++) {
            List<int[]> left = chosen(printed);
            left.remove(i);
            Part one = slope(left);
            if (one == null) continue;
            if (edge == null || (most ? one.against(edge) > 0 : one.against(edge) < 0)) edge = one;
        }
        return is(edge);
    }

    int keep(int law) {
        if (law < 0 || law > 3) return no(-2);
        w.kept[law] = w.law;
        return 0;
    }

    private int fitting(Law law, int a, int b) {
        int many = 0;
        for (int i = 0; i < w.children.size(); i++) {
            if (!isRead(i, a, b)) continue;
            int off = points(i, b) - points(i, a);
            for (int y = w.testYears[a]; y < w.testYears[b]; y++) {
                off -= law.n("gift") + grows(law, w.children.get(i), y);
            }
            if (Math.abs(off) <= 2 * law.n("noise")) many++;
        }
        return many;
    }

    int fits(int law, int a, int b) {
        if (law < 0 || law > 3 || !hasTest(a) || !hasTest(b)) return no(-2);
        if (a == b) return no(-3);
        if (w.kept[law] == null) return no(-5);
        return fitting(w.kept[law], a, b);
    }

    int likely(int a, int b) {
        if (!hasTest(a) || !hasTest(b)) return no(-2);
        if (a == b) return no(-3);
        int likely = -1;
        for (int i = 3; i >= 0; i--) {
            if (w.kept[i] == null) continue;
            if (likely < 0 || fitting(w.kept[i], a, b) >= fitting(w.kept[likely], a, b)) likely = i;
        }
        return likely;
    }

    int needed(int n) {
        if (n < 2 || n > 40000) return no(-3);
        for (int rooms = 2; rooms <= 18; rooms++) {
            int ways = 0;
            for (int set = 0; set < 1 << rooms; set++) if (Integer.bitCount(set) == rooms / 2) ways++;
            if (ways >= n) return rooms;
        }
        return -1;
    }

    int say(int a, int b) {
        if (!hasTest(a) || !hasTest(b)) return no(-2);
        if (a == b) return no(-3);
        Part effect = difference(ones(a, b, false));
        Part clean = difference(ones(a, b, true));
        if (effect == null) return 0;
        for (Child c : w.children) if (c.word == 3) return 1;
        if (effect.up.signum() > 0 && (clean == null || clean.up.signum() <= 0)) return 2;
        if (effect.up.signum() <= 0) return 3;
        Part paid = paidPart();
        return paid == null || paid.against(Part.of(1, 20)) > 0 ? 4 : 5;
    }

    int row(int row, int sort, int n) {
        if (row < 0 || row > 3 || sort < 0 || sort > 3) return no(-2);
        if (n < 0 || n > 40) return no(-3);
        rows[row] = new long[n];
        sorts[row] = sort;
        return 0;
    }

    long write(int row, int i, long v) {
        if (row < 0 || row > 3) return no(-2);
        if (rows[row] == null) return no(-6);
        if (i < 0 || i >= rows[row].length) return no(-7);
        int away = 64 - (8 << sorts[row]);
        return rows[row][i] = v << away >> away;
    }

    int pour(int row, int test) {
        if (row < 0 || row > 3 || !hasTest(test)) return no(-2);
        if (rows[row] == null) return no(-6);
        int many = w.children.size();
        if (rows[row].length < many) return no(-7);
        for (int i = 0; i < many; i++) if (rows[row][i] < -1 || rows[row][i] > 200) return no(-3);
        for (int i = 0; i < many; i++) w.points.put(100 * test + i, (int) rows[row][i]);
        return many;
    }

    int image(int i) {
        if (i < 0 || i > 1) return no(-2);
        images[i] = w.twin();
        return 0;
    }

    int restore(int i) {
        if (i < 0 || i > 1) return no(-2);
        if (images[i] == null) return no(-5);
        w = images[i].twin();
        return 0;
    }

    int status(int what) { return what < 1 || what > 7 ? -1 : refused[what]; }

    int count(int what) {
        if (what >= 20 && what <= 25) return w.testYears[what - 20];
        switch (what) {
            case 0: return w.rooms.size();
            case 1: return w.children.size();
            case 2: return w.years;
            case 3: return w.law.lines;
            case 4: return w.rules.size();
            case 5: return w.films.size();
            case 6: return w.marks.size();
            case 7: return w.trials.size();
            case 8: return tape.length();
            case 9: return (int) w.children.stream().filter(c -> c.word == 1).count();
            case 10: return (int) w.children.stream().filter(c -> c.gone).count();
            default: return -1;
        }
    }
}
