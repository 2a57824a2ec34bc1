import java.util.ArrayList;
import java.util.LinkedHashMap;
import java.util.List;
import java.util.Map;

/** What a LAW and RULES can be made of, and the five FAULTS of a TEXT: each its kind, its place, and what stays. */
public final class FaultsTest {
    private static final int LAW = 0;
    private static final int RULES = 1;
    private static final String GOOD_LINE = "gift 1;";
    private static final String GOOD_RULE = "out if told;";

    private static final String[] KINDS = {"named", "true", "bad", "marked", "heard"};
    private static final String[] WAYS = {"warmth", "time", "harder"};
    private static final String[] NUMBERS = {"known", "gift", "hears", "marks", "noise", "floor", "roof"};
    private static final int[] GREATEST = {100, 50, 50, 50, 20, 200, 200};
    private static final String[] FACTS = {"room", "grade", "known", "below", "above"};
    private static final int[] LEAST_OF_FACTS = {0, 1, 0, 0, 0};
    private static final int[] GREATEST_OF_FACTS = {17, 6, 20, 200, 200};
    private static final String LINE_STARTS = "named true bad marked heard warmth time harder known gift hears marks "
            + "noise floor roof";
    private static final String FACT_STARTS = "not ( told room grade known below above";
    private static final String ALL = LINE_STARTS + " moves gives grows out if or and not told room grade below above "
            + "1 ; ( ) - zeal nam namedmoves outs";

    private static final Due due = new Due();

    public static void main(String[] args) {
        tokensOfALaw();
        tokensOfRules();
        everyByte();
        digits();
        bounds();
        linesAndRules();
        openAroundOneAnother();
        atTheEnd();
        cutShort();
        twoInOneText();
        twoInOneToken();
        fullTexts();
        whatStays();
        fault();
        due.end();
    }

    private static BloomRooms read(int what, String text, int answer) {
        BloomRooms x = new BloomRooms();
        due.is(what + " <" + text + ">", Due.say(x, what, text), answer);
        return x;
    }

    private static void right(int what, String text, int many) {
        BloomRooms x = read(what, text, many);
        due.is("fault of <" + text + ">", x.fault(0), 0);
        due.is("place in <" + text + ">", x.fault(1), -1);
        due.is("lines or rules of <" + text + ">", x.count(what == LAW ? 3 : 4), many);
        due.is("refused by a fault", x.status(1), 0);
    }

    private static void wrong(int what, String text, int fault, int place) {
        BloomRooms x = read(what, text, -10 - fault);
        due.is("fault of <" + text + ">", x.fault(0), fault);
        due.is("place in <" + text + ">", x.fault(1), place);
        due.is("lines or rules of <" + text + ">", x.count(3) + x.count(4), 0);
        due.is("refused by a fault", x.status(1), 1);
        due.is("bytes left of <" + text + ">", x.count(8), 0);
    }

    private static int many(String text, String part) {
        return (text.length() - text.replace(part, "").length()) / part.length();
    }

    /** Behind the beginning of a text each TOKEN that may stand there does, and no other one; nor the end. */
    private static void behind(int what, String text, String may) {
        String start = text.isEmpty() ? "" : text + " ";
        List<String> those = List.of(may.split(" "));
        for (String token : ALL.split(" ")) {
            if (!those.contains(token)) {
                wrong(what, start + token, 2, start.length());
                wrong(what, start + "\n  " + token + " ;", 2, start.length() + 3);
            } else if (token.equals(";")) {
                right(what, start + token, many(start + token, ";"));
            } else {
                wrong(what, start + token, 2, start.length() + token.length());
                wrong(what, start + token + " \n", 2, start.length() + token.length() + 2);
            }
        }
        for (String none : new String[] {"?", "1000", "0001", "A", "\t", "\r", "{", "}", "|", "\0"}) {
            wrong(what, start + none, 1, start.length());
            wrong(what, start + none + ";", 1, start.length());
        }
        if (text.isEmpty() || text.endsWith(";")) {
            right(what, text, many(text, ";"));
            right(what, start + "\n ", many(text, ";"));
        } else {
            wrong(what, text, 2, text.length());
            wrong(what, start + "\n ", 2, start.length() + 2);
        }
    }

    private static void tokensOfALaw() {
        behind(LAW, "", LINE_STARTS);
        behind(LAW, "gift 1;", LINE_STARTS);
        behind(LAW, "bad moves - 1;\n time gives 1 grows 1 ;", LINE_STARTS);
        for (String kind : KINDS) {
            behind(LAW, kind, "moves");
            behind(LAW, kind + " moves", "1 -");
            behind(LAW, kind + " moves -", "1");
            behind(LAW, kind + " moves 5", ";");
            behind(LAW, kind + " moves - 5", ";");
        }
        for (String way : WAYS) {
            behind(LAW, way, "gives");
            behind(LAW, way + " gives", "1");
            behind(LAW, way + " gives 5", "grows");
            behind(LAW, way + " gives 5 grows", "1");
            behind(LAW, way + " gives 5 grows 6", ";");
        }
        for (String number : NUMBERS) {
            behind(LAW, number, "1");
            behind(LAW, number + " 5", ";");
        }
        right(LAW, "named moves-5;true moves5;bad moves -5 ;time gives5grows5;gift5;", 5);
        right(LAW, "\n\nnamed\nmoves\n-\n5\n;\n\ngift   5   ;", 2);
    }

    private static void tokensOfRules() {
        behind(RULES, "", "out");
        behind(RULES, "out if told;", "out");
        behind(RULES, "out", "if");
        behind(RULES, "out if", FACT_STARTS);
        behind(RULES, "out if told; out if", FACT_STARTS);
        behind(RULES, "out if told", "and or ;");
        for (String fact : FACTS) {
            behind(RULES, "out if " + fact, "1");
            behind(RULES, "out if " + fact + " 2", "and or ;");
            behind(RULES, "out if ( " + fact + " 2", "and or )");
        }
        behind(RULES, "out if not", FACT_STARTS);
        behind(RULES, "out if not told", "and or ;");
        behind(RULES, "out if (", FACT_STARTS);
        behind(RULES, "out if ( told", "and or )");
        behind(RULES, "out if ( told )", "and or ;");
        behind(RULES, "out if ( ( told )", "and or )");
        behind(RULES, "out if not ( told", "and or )");
        behind(RULES, "out if ( not told", "and or )");
        behind(RULES, "out if told and", FACT_STARTS);
        behind(RULES, "out if told or", FACT_STARTS);
        behind(RULES, "out if ( told and", FACT_STARTS);
        behind(RULES, "out if ( told or", FACT_STARTS);
        behind(RULES, "out if told and told or", FACT_STARTS);
        behind(RULES, "out if told or told and not told", "and or ;");
        right(RULES, "out if(told)and not(room5)or(below9);out\nif\nnot\nnot\ntold;", 2);
    }

    /** Each of the 256 bytes at the start of a text, behind a number, at the end. */
    private static void everyByte() {
        for (int b = 0; b < 256; b++) {
            String one = String.valueOf((char) b);
            boolean blank = b == 10 || b == 32;
            boolean letter = b >= 'a' && b <= 'z';
            boolean digit = b >= '0' && b <= '9';
            boolean sign = ";()-".indexOf(b) >= 0;
            for (int what = 0; what < 2; what++) {
                String good = what == LAW ? GOOD_LINE : GOOD_RULE;
                if (blank) {
                    right(what, one, 0);
                    right(what, one + good, 1);
                    right(what, good + one, 1);
                } else {
                    int kind = letter || digit || sign ? 2 : 1;
                    wrong(what, one, kind, 0);
                    wrong(what, one + " " + good, kind, 0);
                    wrong(what, good + one, kind, good.length());
                }
            }
            if (b == ';') {
                right(LAW, "gift 1" + one, 1);
            } else if (blank || digit) {
                wrong(LAW, "gift 1" + one, 2, 7);
            } else {
                wrong(LAW, "gift 1" + one + ";", letter || sign ? 2 : 1, 6);
            }
        }
    }

    private static void digits() {
        for (int digits = 1; digits <= 12; digits++) {
            String n = "0".repeat(digits - 1) + "1";
            if (digits <= 3) {
                right(LAW, "gift " + n + ";", 1);
                right(RULES, "out if room " + n + ";", 1);
            } else {
                wrong(LAW, "gift " + n + ";", 1, 5);
                wrong(LAW, "gift " + n, 1, 5);
                wrong(RULES, "out if room " + n + ";", 1, 12);
            }
        }
        wrong(LAW, "9".repeat(400), 1, 0);
        wrong(LAW, "999", 2, 0);
        wrong(LAW, "z".repeat(400), 2, 0);
        wrong(LAW, "gift 10 00;", 2, 8);
        wrong(LAW, "gift 1\n0;", 2, 7);
        wrong(LAW, "gi ft 1;", 2, 0);
    }

    private static void bounded(int what, String before, String behind, int least, int greatest) {
        for (int n : new int[] {least, least + 1, greatest - 1, greatest}) {
            right(what, before + n + behind, 1);
            right(what, before + "00".substring(n > 99 ? 2 : n > 9 ? 1 : 0) + n + behind, 1);
        }
        for (int n : new int[] {least - 1, greatest + 1, 2 * greatest, 999}) {
            if (n >= 0 && (n < least || n > greatest)) {
                wrong(what, before + n + behind, 3, before.length());
                wrong(what, before + n, 3, before.length());
                wrong(what, before + n + " \n ;;", 3, before.length());
            }
        }
    }

    private static void bounds() {
        for (String kind : KINDS) {
            bounded(LAW, kind + " moves ", ";", 0, 99);
            bounded(LAW, kind + " moves - ", ";", 0, 99);
        }
        for (String way : WAYS) {
            bounded(LAW, way + " gives ", " grows 1;", 0, 99);
            bounded(LAW, way + " gives 1 grows ", ";", 0, 99);
        }
        for (int i = 0; i < NUMBERS.length; i++) {
            bounded(LAW, NUMBERS[i] + " ", ";", 0, GREATEST[i]);
        }
        for (int i = 0; i < FACTS.length; i++) {
            bounded(RULES, "out if " + FACTS[i] + " ", ";", LEAST_OF_FACTS[i], GREATEST_OF_FACTS[i]);
            bounded(RULES, "out if not (told or " + FACTS[i] + " ", ");", LEAST_OF_FACTS[i], GREATEST_OF_FACTS[i]);
        }
    }

    private static void linesAndRules() {
        right(LAW, GOOD_LINE.repeat(29), 29);
        String lines = GOOD_LINE.repeat(30);
        right(LAW, lines, 30);
        right(LAW, lines + " \n ", 30);
        for (String start : LINE_STARTS.split(" ")) {
            wrong(LAW, lines + start, 4, 210);
            wrong(LAW, lines + "\n " + start + " ?", 4, 212);
        }
        wrong(LAW, lines + lines.substring(0, 189), 4, 210);
        right(RULES, GOOD_RULE.repeat(11), 11);
        String rules = GOOD_RULE.repeat(12);
        right(RULES, rules, 12);
        right(RULES, rules + "\n", 12);
        wrong(RULES, rules + "out", 4, 144);
        wrong(RULES, rules + "  out if told;", 4, 146);
        wrong(RULES, rules + GOOD_RULE.repeat(21), 4, 144);
    }

    /** A row of not and ( that are open around one another, by the bits of a number, and the signs that close them. */
    private static void openAroundOneAnother() {
        for (int bits = 0; bits < 512; bits += 7) {
            StringBuilder open = new StringBuilder("out if ");
            StringBuilder close = new StringBuilder();
            for (int i = 0; i < 8; i++) {
                boolean not = (bits >> i & 1) == 1;
                open.append(not ? "not " : "( ");
                close.append(not ? "" : ")");
            }
            right(RULES, open + "told" + close + ";", 1);
            right(RULES, open + "told and told or told" + close + " or(((told)));", 1);
            for (String ninth : new String[] {"not", "("}) {
                wrong(RULES, open + ninth, 5, open.length());
                wrong(RULES, open + ninth + " told", 5, open.length());
                if (bits < 128) {
                    wrong(RULES, open + "told and " + ninth + " told", 5, open.length() + 9);
                    wrong(RULES, open + "told or (" + " told", 5, open.length() + 8);
                }
            }
        }
        right(RULES, "out if (told) and (told) and (told) and (told) and (told) or (told) or (told) or (told) or (told);", 1);
        right(RULES, "out if not told and not told and not told or not told or not told or not told or not told or not "
                + "told or not told;", 1);
        right(RULES, "out if not not not not not not not not told or not not not not not not not not told;", 1);
        right(RULES, "out if ((((((((told))))))));out if ((((((((told))))))));", 2);
        wrong(RULES, "out if (((((((not told and not not told", 5, 31);
        right(RULES, "out if (((((((not told and not told)))))));", 1);
        right(RULES, "out if (((((((not told) and not told))))));", 1);
        wrong(RULES, "out if (((((((not told) and not not not told", 5, 36);
    }

    private static void atTheEnd() {
        wrong(LAW, GOOD_LINE + "?", 1, 7);
        wrong(LAW, "gift 1000", 1, 5);
        wrong(LAW, "gift 1000 ", 1, 5);
        wrong(LAW, GOOD_LINE + "\u00ff", 1, 7);
        wrong(LAW, "gift 1", 2, 6);
        wrong(LAW, "gift 1 \n", 2, 8);
        wrong(LAW, "gift", 2, 4);
        wrong(LAW, GOOD_LINE + ";", 2, 7);
        wrong(LAW, GOOD_LINE + "5", 2, 7);
        wrong(LAW, "gift 51", 3, 5);
        wrong(LAW, "gift 51\n", 3, 5);
        wrong(LAW, GOOD_LINE.repeat(30) + "bad", 4, 210);
        wrong(RULES, GOOD_RULE + "!", 1, 12);
        wrong(RULES, "out if below 0000", 1, 13);
        wrong(RULES, "out if told", 2, 11);
        wrong(RULES, "out if (told", 2, 12);
        wrong(RULES, "out if told and", 2, 15);
        wrong(RULES, "out if grade 0", 3, 13);
        wrong(RULES, GOOD_RULE.repeat(12) + "out", 4, 144);
        wrong(RULES, "out if (((((((((", 5, 15);
        wrong(RULES, "out if ((((((((", 2, 15);
        wrong(RULES, "out if not not not not not not not not not", 5, 39);
        wrong(RULES, "out if not not not not not not not not", 2, 38);
    }

    /** The first bytes of THE TAPE alone are the text; a TOKEN that goes on behind them ends there. */
    private static void cutShort() {
        String text = "noise 20;roof 1999";
        int[] faults = {0, 2, 2, 2, 2, 2, 2, 2, 2, 0, 2, 2, 2, 2, 2, 2, 2, 2, 1};
        int[] places = {-1, 0, 0, 0, 0, 5, 6, 7, 8, -1, 9, 9, 9, 13, 14, 15, 16, 17, 14};
        for (int n = 0; n <= text.length(); n++) {
            BloomRooms x = new BloomRooms();
            Due.feed(x, text);
            due.is(n + " bytes", x.text(LAW, n), faults[n] > 0 ? -10 - faults[n] : n / 9);
            due.is("fault of " + n + " bytes", x.fault(0), faults[n]);
            due.is("place in " + n + " bytes", x.fault(1), places[n]);
            due.is("no bytes are left", x.count(8), 0);
        }
    }

    private static void twoInOneText() {
        Map<Integer, String> lines = new LinkedHashMap<>();
        lines.put(1, "gift ?;");
        lines.put(2, "gift ;");
        lines.put(3, "gift 51;");
        for (int one : lines.keySet()) {
            for (int other : lines.keySet()) {
                wrong(LAW, lines.get(one) + lines.get(other), one, 5);
                wrong(LAW, GOOD_LINE + lines.get(one) + GOOD_LINE + lines.get(other), one, 12);
            }
            wrong(LAW, GOOD_LINE.repeat(29) + lines.get(one) + GOOD_LINE, one, 208);
            wrong(LAW, GOOD_LINE.repeat(30) + lines.get(one), 4, 210);
            wrong(LAW, GOOD_LINE.repeat(31) + lines.get(one), 4, 210);
        }
        wrong(LAW, "named moves 100 ? 1000", 3, 12);
        wrong(LAW, "named moves ; 100 ?", 2, 12);
        wrong(LAW, "named moves ? ; 100", 1, 12);
        wrong(LAW, "time gives 100 grows 100;", 3, 11);
        wrong(LAW, "time gives 99 grows 100;", 3, 20);
        Map<Integer, String> rules = new LinkedHashMap<>();
        rules.put(1, "out if (told) and ?;");
        rules.put(2, "out if (told) and ;");
        rules.put(3, "out if below 18 and room 18;");
        rules.put(5, "out if told and (((((((((told");
        int[] places = {0, 18, 18, 25, 0, 24};
        for (int one : rules.keySet()) {
            for (int other : rules.keySet()) {
                wrong(RULES, rules.get(one) + rules.get(other), one, places[one]);
                wrong(RULES, GOOD_RULE + rules.get(one) + GOOD_RULE + rules.get(other), one, 12 + places[one]);
            }
            wrong(RULES, GOOD_RULE.repeat(11) + rules.get(one) + GOOD_RULE, one, 132 + places[one]);
            wrong(RULES, GOOD_RULE.repeat(12) + rules.get(one), 4, 144);
            wrong(RULES, GOOD_RULE.repeat(13) + rules.get(one), 4, 144);
        }
        wrong(RULES, "out if ((((((((((((room 99 ?", 5, 15);
        wrong(RULES, "out if ((((((((room 99 and ((", 3, 20);
        wrong(RULES, "out if ((((((((room ? and ((", 1, 20);
        wrong(RULES, "out if (((((((( and ((", 2, 16);
    }

    private static void twoInOneToken() {
        // 1 and 2: no TOKEN begins so, and none may stand there; 1 and 3: it would be out of its bounds, too.
        wrong(LAW, "gift 1 ?", 1, 7);
        wrong(LAW, "gift 1 1000;", 1, 7);
        wrong(LAW, "named 1000;", 1, 6);
        wrong(LAW, "gift 9999;", 1, 5);
        wrong(RULES, "out if room 9999;", 1, 12);
        // 1 and 4, 1 and 5
        wrong(LAW, GOOD_LINE.repeat(30) + "?", 1, 210);
        wrong(LAW, GOOD_LINE.repeat(30) + "1000", 1, 210);
        wrong(RULES, GOOD_RULE.repeat(12) + "OUT", 1, 144);
        wrong(RULES, "out if ((((((((?", 1, 15);
        // 2 and 3: an N that can't stand there is out of all bounds
        wrong(LAW, "gift 1 999;", 2, 7);
        wrong(LAW, "999;", 2, 0);
        wrong(RULES, "out if told 999;", 2, 12);
        // 2 and 4: the 31st LINE, the 13th RULE begin with what can't begin one
        for (String token : new String[] {";", "moves", "out", "5", "-", "("}) {
            wrong(LAW, GOOD_LINE.repeat(30) + token, 2, 210);
        }
        for (String token : new String[] {";", "if", "told", "gift", "5", "("}) {
            wrong(RULES, GOOD_RULE.repeat(12) + token, 2, 144);
        }
        // 2 and 5: a 9th one where none can stand
        wrong(RULES, "out if ((((((((told (", 2, 20);
        wrong(RULES, "out if ((((((((told not", 2, 20);
        wrong(RULES, "out if ((((((((room (", 2, 20);
    }

    /** Texts of 400 bytes, and FAULTS at their last byte and behind it. */
    private static void fullTexts() {
        right(LAW, " ".repeat(400), 0);
        right(LAW, " ".repeat(393) + GOOD_LINE, 1);
        right(LAW, GOOD_LINE + "\n".repeat(393), 1);
        right(RULES, " ".repeat(388) + GOOD_RULE, 1);
        wrong(LAW, " ".repeat(399) + "?", 1, 399);
        wrong(LAW, " ".repeat(399) + ";", 2, 399);
        wrong(LAW, " ".repeat(396) + "gift", 2, 400);
        wrong(LAW, " ".repeat(393) + "gift 51", 3, 398);
        wrong(LAW, GOOD_LINE.repeat(30) + " ".repeat(186) + "gift", 4, 396);
        wrong(RULES, GOOD_RULE.repeat(12) + " ".repeat(253) + "out", 4, 397);
        wrong(RULES, " ".repeat(384) + "out if (((((((((", 5, 399);
        wrong(RULES, " ".repeat(389) + "out if told", 2, 400);
        right(RULES, "out if told" + " or told".repeat(48) + "    ;", 1);
        right(RULES, "out if told" + " and told".repeat(43) + " ;", 1);
        wrong(RULES, "(".repeat(400), 2, 0);
        wrong(LAW, "-".repeat(400), 2, 0);
        wrong(LAW, "gift " + ";".repeat(395), 2, 5);
        right(LAW, ("time gives 1" + "\n".repeat(20) + "grows 1;").repeat(10), 10);
        BloomRooms x = new BloomRooms();
        x.room(0, false);
        x.child(0, 1, 0);
        x.word(0, 1);
        Due.say(x, LAW, " ".repeat(383) + "named moves - 99;");
        due.is("the last of 400 bytes count", x.of(0, 5), -99);
        x.word(0, 0);
        x.tell(0, 0, 200);
        x.tell(0, 1, 200);
        List<String> facts = new ArrayList<>();
        for (int i = 0; i < 40; i++) {
            facts.add("told");
        }
        String rule = "out if " + String.join(" or ", facts);
        Due.say(x, RULES, rule + " ".repeat(386 - rule.length()) + " or above 199;");
        due.is("the last of 400 bytes count", x.read(0, 1, 0), 0);
    }

    /** With a FAULT all stays but THE TAPE, the FAULT and how many were refused so. */
    private static void whatStays() {
        String[] texts = {"gift 2;?", "gift 2; gift", "gift 51;", GOOD_LINE.repeat(30) + "bad", "out if (told",
            "out if not told;told", "out if room 18;", GOOD_RULE.repeat(12) + "out", "out if (((((((((told"};
        int[] kinds = {1, 2, 3, 4, 2, 2, 3, 4, 5};
        int[] places = {7, 12, 5, 210, 12, 16, 12, 144, 15};
        for (int i = 0; i < texts.length; i++) {
            BloomRooms x = someWithoutTape();
            due.is(texts[i], Due.say(x, i < 4 ? LAW : RULES, texts[i]), -10 - kinds[i]);
            Map<String, Long> want = new LinkedHashMap<>(Seen.of(someWithoutTape()));
            want.merge("status 1", 1L, Long::sum);
            want.put("fault", (long) kinds[i]);
            want.put("place", (long) places[i]);
            due.seen(texts[i], Seen.of(x), want);
        }
    }

    private static BloomRooms someWithoutTape() {
        BloomRooms x = Schools.some();
        x.text(RULES, 0);
        Due.say(x, RULES, "out if grade 4 and above 100;");
        return x;
    }

    /** The FAULT is that of the latest text that was read. */
    private static void fault() {
        BloomRooms x = new BloomRooms();
        due.is("no fault", x.fault(0), 0);
        due.is("no place", x.fault(1), -1);
        Due.say(x, LAW, "gift");
        Due.say(x, RULES, "out if grade 7;");
        due.is("the later fault", x.fault(0), 3);
        due.is("the later place", x.fault(1), 13);
        x.text(2, 0);
        x.text(LAW, 1);
        due.is("a text that wasn't read", x.fault(0), 3);
        due.is("a text that wasn't read", x.fault(1), 13);
        x.text(LAW, 0);
        due.is("a right text", x.fault(0), 0);
        due.is("a right text", x.fault(1), -1);
        Due.say(x, LAW, "?");
        due.is("a place of 0", x.fault(1), 0);
        Due.say(x, RULES, "");
        due.is("right rules", x.fault(0), 0);
        due.is("right rules", x.fault(1), -1);
        due.is("refused by a fault", x.status(1), 3);
    }
}
