/** Promises 8 to 10: THE TAPE, the two texts and their FAULTS. */
public final class TextsTest {
    private static final Due due = new Due();

    public static void main(String[] args) {
        tape();
        lawsRead();
        lawFaults();
        ruleFaults();
        manyLines();
        depth();
        rulesHold();
        due.end();
    }

    private static void tape() {
        BloomRooms x = new BloomRooms();
        for (int i = 1; i <= 20; i++) {
            due.is("feed " + i, x.feed(0x67696674, 0x20313b20, 0x20202020, 0x20202020, 0x20202020), 20 * i);
        }
        due.is("feed 21", x.feed(0, 0, 0, 0, 0), -4);
        due.is("bytes", x.count(8), 400);
        due.is("text 2", x.text(2, 400), -2);
        due.is("text -1", x.text(-1, 401), -2);
        due.is("too many bytes", x.text(0, 401), -3);
        due.is("less than none", x.text(1, -1), -3);
        due.is("the tape stays", x.count(8), 400);
        due.is("read", x.text(0, 28), 2);
        due.is("the tape is empty", x.count(8), 0);
        due.is("lines", x.count(3), 2);
        due.is("nothing more there", x.text(0, 1), -3);
        due.is("the empty text", x.text(0, 0), 0);
        due.is("no lines", x.count(3), 0);
        x.feed(-1, 0, 0, 0, 0);
        due.is("byte 255", x.text(0, 20), -11);
        due.is("the tape is empty after a fault", x.count(8), 0);
        due.is("refused once by a fault", x.status(1), 1);
        due.is("refused by -2", x.status(2), 2);
        due.is("refused by -3", x.status(3), 3);
        due.is("refused by -4", x.status(4), 1);
        due.is("no such status", x.status(0), -1);
        due.is("no such status", x.status(8), -1);
        x.feed(0x67696674, 0x20313233, 0x343b2020, 0x20202020, 0x20202020);
        due.is("a text ends in a number", x.text(0, 7), -12);
        due.is("what is behind it doesn't count", x.fault(1), 7);
        x.feed(0x6f757420, 0x69662074, 0x6f6c6478, 0x20202020, 0x20202020);
        due.is("a text ends in a word", x.text(1, 11), -12);
        due.is("what is behind it doesn't count", x.fault(1), 11);
        due.is("no such fault", x.fault(2), -1);
        due.is("no such fault", x.fault(-1), -1);
    }

    private static void lawsRead() {
        BloomRooms x = new BloomRooms();
        x.room(1, false);
        x.child(0, 1, 100);
        x.word(0, 1);
        right(x, 0, "named moves 1;named moves 12;", 2);
        due.is("the later line", x.of(0, 5), 12);
        right(x, 0, " \n named\nmoves-099 ; ", 1);
        due.is("below 0", x.of(0, 5), -99);
        wrong(x, 0, "known 100;named moves 99", 2, 24);
        due.is("the law stays with a fault", x.of(0, 5), -99);
        right(x, 0, "known 100;named moves 99;", 2);
        due.is("known", x.of(0, 5), 0);
        right(x, 0, "named moves - 0;", 1);
        due.is("no hold", x.of(0, 5), 0);
        right(x, 0, "warmth gives 99 grows 0;time gives 0 grows 99;harder gives 1 grows 1;", 3);
        right(x, 0, "gift 50;hears 50;marks 50;noise 20;floor 200;roof 200;roof 000;", 7);
        right(x, 0, "gift 0;hears 0;marks 0;noise 0;floor 0;roof 0;known 0;", 7);
        right(x, 0, "\n \n", 0);
        right(x, 1, "\n \n", 0);
        due.is("no fault", x.fault(0), 0);
        due.is("no place", x.fault(1), -1);
    }

    private static void lawFaults() {
        BloomRooms x = new BloomRooms();
        wrong(x, 0, "gift 1;?", 1, 7);
        wrong(x, 0, "gift 0001;", 1, 5);
        wrong(x, 0, "Gift 1;", 1, 0);
        wrong(x, 0, "gift 1\t;", 1, 6);
        wrong(x, 0, ";", 2, 0);
        wrong(x, 0, "gift;", 2, 4);
        wrong(x, 0, "gift -1;", 2, 5);
        wrong(x, 0, "gift 1", 2, 6);
        wrong(x, 0, "gift 1 \n ", 2, 9);
        wrong(x, 0, "gift 1 1;", 2, 7);
        wrong(x, 0, "gift1;gift 2 gift 3;", 2, 13);
        wrong(x, 0, "gifts 1;", 2, 0);
        wrong(x, 0, "gif 1;", 2, 0);
        wrong(x, 0, "zeal 1;", 2, 0);
        wrong(x, 0, "gift 1; buzz", 2, 8);
        wrong(x, 0, "`a`", 1, 0);
        wrong(x, 0, "{}", 1, 0);
        wrong(x, 0, "/0", 1, 0);
        wrong(x, 0, ":9", 1, 0);
        wrong(x, 0, "moves 1;", 2, 0);
        wrong(x, 0, "gives 1;", 2, 0);
        wrong(x, 0, "grows 1;", 2, 0);
        wrong(x, 0, "out if told;", 2, 0);
        wrong(x, 0, "5;", 2, 0);
        wrong(x, 0, "(gift 1);", 2, 0);
        wrong(x, 0, "named 5;", 2, 6);
        wrong(x, 0, "named moves --5;", 2, 13);
        wrong(x, 0, "named moves 100;", 3, 12);
        wrong(x, 0, "named moves - 100;", 3, 14);
        wrong(x, 0, "time gives 100 grows 1;", 3, 11);
        wrong(x, 0, "time gives 1 grows 100;", 3, 19);
        wrong(x, 0, "time gives 1 gives 1;", 2, 13);
        wrong(x, 0, "known 101;", 3, 6);
        wrong(x, 0, "gift 51;", 3, 5);
        wrong(x, 0, "hears 51;", 3, 6);
        wrong(x, 0, "marks 51;", 3, 6);
        wrong(x, 0, "noise 21;", 3, 6);
        wrong(x, 0, "floor 201;", 3, 6);
        wrong(x, 0, "roof 201;", 3, 5);
        wrong(x, 0, "gift 99 9999", 3, 5);
    }

    private static void ruleFaults() {
        BloomRooms x = new BloomRooms();
        right(x, 1, "out if told;", 1);
        wrong(x, 1, "out if told", 2, 11);
        due.is("the rules stay with a fault", x.count(4), 1);
        wrong(x, 1, "out", 2, 3);
        wrong(x, 1, "if told;", 2, 0);
        wrong(x, 1, "out told;", 2, 4);
        wrong(x, 1, "out if;", 2, 6);
        wrong(x, 1, "out if told told;", 2, 12);
        wrong(x, 1, "out if told and;", 2, 15);
        wrong(x, 1, "out if told or or told;", 2, 15);
        wrong(x, 1, "out if told);", 2, 11);
        wrong(x, 1, "out if (told;", 2, 12);
        wrong(x, 1, "out if ();", 2, 8);
        wrong(x, 1, "out if not;", 2, 10);
        wrong(x, 1, "out if gift 5;", 2, 7);
        wrong(x, 1, "out if room told;", 2, 12);
        wrong(x, 1, "out if room - 1;", 2, 12);
        wrong(x, 1, "out if told 5;", 2, 12);
        wrong(x, 1, "out if room 18;", 3, 12);
        wrong(x, 1, "out if grade 0;", 3, 13);
        wrong(x, 1, "out if grade 7;", 3, 13);
        wrong(x, 1, "out if known 21;", 3, 13);
        wrong(x, 1, "out if below 201;", 3, 13);
        wrong(x, 1, "out if above 201;", 3, 13);
        wrong(x, 1, "out if above 2001;", 1, 13);
        wrong(x, 1, "out if told & told;", 1, 12);
        right(x, 1, "out if room 17 and grade 6 and known 20 and below 200 or above 200 and room 0;", 1);
        right(x, 1, "out if grade 1 or known 0 or below 0 or above 0;", 1);
    }

    private static void manyLines() {
        BloomRooms x = new BloomRooms();
        String lines = "gift 1;".repeat(30);
        right(x, 0, lines, 30);
        wrong(x, 0, lines + " gift 1;", 4, 211);
        wrong(x, 0, lines + " gift", 4, 211);
        wrong(x, 0, lines + " ;", 2, 211);
        wrong(x, 0, lines + " told", 2, 211);
        wrong(x, 0, lines + " !", 1, 211);
        String rules = "out if told;".repeat(12);
        right(x, 1, rules, 12);
        wrong(x, 1, rules + "out", 4, 144);
        wrong(x, 1, rules + "told", 2, 144);
        wrong(x, 1, rules + "0000", 1, 144);
        due.is("lines stay", x.count(3), 30);
        due.is("rules stay", x.count(4), 12);
    }

    private static void depth() {
        BloomRooms x = new BloomRooms();
        right(x, 1, "out if not not not not not not not not told;", 1);
        wrong(x, 1, "out if not not not not not not not not not told;", 5, 39);
        right(x, 1, "out if ((((((((told))))))));", 1);
        wrong(x, 1, "out if (((((((((told)))))))));", 5, 15);
        right(x, 1, "out if not(not(not(not(told))));", 1);
        wrong(x, 1, "out if not(not(not(not(not told))));", 5, 23);
        wrong(x, 1, "out if ((((((((told or not told))))))));", 5, 23);
        right(x, 1, "out if not not not not not not not not told and not not told;", 1);
        right(x, 1, "out if ((((told))))and((((told)))) or ((((((((told))))))));", 1);
        wrong(x, 1, "out if told ((((((((((told", 2, 12);
    }

    private static void rulesHold() {
        BloomRooms x = new BloomRooms();
        x.room(5, false);
        x.room(6, false);
        for (int c = 0; c < 6; c++) {
            x.child(c / 3, 1 + c, 10);
            x.tell(c, 0, 100 + c);
            x.tell(c, 1, 90);
            x.word(c, c);
        }
        outOf(x, "", "......");
        outOf(x, "out if told;", "..xxxx");
        outOf(x, "out if not told;", "xx....");
        outOf(x, "out if room 1;", "...xxx");
        outOf(x, "out if grade 2;", ".x....");
        outOf(x, "out if known 6;", "...xxx");
        outOf(x, "out if known 5;", "xxxxxx");
        outOf(x, "out if below 102;", "xx....");
        outOf(x, "out if above 102;", "...xxx");
        outOf(x, "out if told and room 0;", "..x...");
        outOf(x, "out if grade 1 or grade 3;", "x.x...");
        outOf(x, "out if grade 1 or told and room 0;", "x.x...");
        outOf(x, "out if told and room 0 or grade 1;", "x.x...");
        outOf(x, "out if (grade 1 or told) and room 1;", "...xxx");
        outOf(x, "out if not (told and room 0);", "xx.xxx");
        outOf(x, "out if not told and room 0;", "xx....");
        outOf(x, "out if not not told;", "..xxxx");
        outOf(x, "out if grade 1;out if grade 6;out if room 9;", "x....x");
        outOf(x, "out if not (not (room 0 or grade 5) or told);", "xx....");
        Due.say(x, 1, "out if below 91;");
        due.is("below is of the first test", x.read(0, 1, 0), 6);
        due.is("below is of the first test", x.read(1, 0, 0), 0);
    }

    private static void outOf(BloomRooms x, String rules, String whichOut) {
        Due.say(x, 1, rules);
        for (int c = 0; c < 6; c++) {
            due.is(rules + " child " + c, x.grew(c, 0, 1), whichOut.charAt(c) == 'x' ? -1000 : -10 - c);
        }
    }

    private static void right(BloomRooms x, int what, String text, int many) {
        due.is(text, Due.say(x, what, text), many);
        due.is("fault of " + text, x.fault(0), 0);
        due.is("place of " + text, x.fault(1), -1);
    }

    private static void wrong(BloomRooms x, int what, String text, int fault, int place) {
        int before = x.status(1);
        due.is(text, Due.say(x, what, text), -10 - fault);
        due.is("fault of " + text, x.fault(0), fault);
        due.is("place of " + text, x.fault(1), place);
        due.is("refused", x.status(1), before + 1);
    }
}
