/** The document's edges, sentence by sentence: the tape, texts of the house, the law, the first wrong byte. */
public final class EdgesOfTextsTest {
    private static final int BLANKS = 0x20202020;

    public static void main(String[] args) {
        tapeOf400();
        highestFirst();
        firstBytesAlone();
        twelveTexts();
        fourteenLines();
        eightGuests();
        numbersOfTheHouse();
        restOfAGuest();
        holeIntoAnother();
        threeDigits();
        wordsAndBlanks();
        eachWordInItsPlace();
        eachSignInItsPlace();
        lettersOfWords();
        strangeBytes();
        noLine();
        moreMustCome();
        nothingStays();
        twelveLinesOfLaw();
        turnsOfALine();
        numbersOfTheLaw();
        facts();
        turnsBy();
        sixDeep();
        binding();
        inPlaceOfTheOneBefore();
        firstWrongByte();
        faultOfTheLatest();
        Check.end("EdgesOfTextsTest");
    }

    private static int blanks(SaturdayKeep x) {
        return x.feed(BLANKS, BLANKS, BLANKS, BLANKS, BLANKS);
    }

    private static void tapeOf400() {
        Check.says("how many it has; NONE, and none come, if it would have more than 400.");
        SaturdayKeep x = new SaturdayKeep();
        for (int n = 20; n <= 380; n += 20) {
            Check.due("feed", n, blanks(x));
        }
        Check.due("the last that is taken: 400", 400, blanks(x));
        Check.due("the first that is refused: 420", -1, x.feed(-1, -1, -1, -1, -1));
        Check.no("none came", x.end(401));
        Check.yes("381", x.end(381));
        Check.due("401 is too many", -1, x.feed(-1, -1, -1, -1, -1));
        Check.no("not even some of them came", x.end(382));
        Check.due("all that was fed are blanks", 1, x.house());
        Check.tape(x, new int[380]);
        Check.due("400 is not", 400, blanks(x));
        x.end(0);
        Check.due("an emptied tape takes again", 20, blanks(x));
    }

    private static void highestFirst() {
        Check.says("Twenty bytes come behind the TAPE, of each number the highest first");
        SaturdayKeep x = new SaturdayKeep();
        // 51 and 1, 0 and 0: in the other order there would be no such week
        x.feed(0x33010000, 0, 0, 0, 0);
        x.end(4);
        Check.due("51 is there, 0 is not", 51, x.bored(false));
        x.feed(0, 0, 0, 0, 0x00003301);
        x.end(20);
        Check.due("the last two bytes", 51, x.bored(false));
        x.feed(0x80000000, 0, 0, 0, 0);
        Check.wrong("a byte is 0 to 255, not below", x::shifts);
        x.feed(BLANKS, BLANKS, BLANKS, BLANKS, 0x20206b65);
        x.feed(0x65702031, BLANKS, BLANKS, BLANKS, BLANKS);
        Check.due("a word over two feeds", 1, x.house());
        Check.due("keep 1", 1, x.count(5));
    }

    private static void firstBytesAlone() {
        Check.says("The TAPE has its first n bytes alone: true; false, and nothing happens, if it has fewer, or n is below 0.");
        SaturdayKeep x = new SaturdayKeep();
        Check.yes("none of none", x.end(0));
        Check.no("one of none", x.end(1));
        Check.tape(x, "bath 7");
        Check.no("one more than there are", x.end(7));
        Check.no("below 0", x.end(-1));
        Check.no("the least", x.end(Integer.MIN_VALUE));
        Check.no("the most", x.end(Integer.MAX_VALUE));
        Check.yes("all", x.end(6));
        Check.due("nothing happened by those", 1, x.house());
        Check.due("bath", 7, x.count(4));
        Check.tape(x, "bath 3");
        Check.yes("none of six", x.end(0));
        Check.due("an empty text", 2, x.house());
        Check.due("bath", 7, x.count(4));
    }

    private static void twelveTexts() {
        Check.says("THE HOUSE is told in texts (at most 12, one behind another)");
        Check.says("IllegalArgumentException: it is wrong; UnsupportedOperationException: there are 12.");
        SaturdayKeep x = new SaturdayKeep();
        for (int n = 1; n <= 12; n++) {
            Check.due("text " + n, n, Check.house(x, "day " + n));
        }
        Check.thrown("the 13th", UnsupportedOperationException.class, () -> Check.house(x, "bath 3;day 13"));
        Check.due("it was read, and is right", -1, x.fault());
        Check.thrown("an empty 13th", UnsupportedOperationException.class, () -> Check.house(x, ""));
        Check.wrong("a wrong 13th: the one told first", () -> Check.house(x, "bath 3;day"));
        Check.due("it was read, and is wrong", 10, x.fault());
        Check.due("texts", 12, x.count(1));
        Check.due("the 12th holds", 12, x.count(3));
        Check.due("nothing of the others", 0, x.count(4));
        Check.due("a law is told all the same", 1, Check.law(x, "calm 1"));
        Check.due("and a text is right for it", -1, x.fault());
    }

    private static void fourteenLines() {
        Check.says("LINE { ; LINE }, at most 14");
        SaturdayKeep x = new SaturdayKeep();
        Check.due("one", 1, Check.house(x, "day 1"));
        Check.due("14", 2, Check.house(x, Check.times(13, "day 1") + ";day 14"));
        Check.due("the 14th counts", 14, x.count(3));
        Check.wrong("15", () -> Check.house(x, Check.times(15, "day 1")));
        Check.due("the first word of the 15th", 84, x.fault());
        Check.wrong("a 15th that is none", () -> Check.house(x, Check.times(14, "day 1") + "; ; day 1"));
        Check.due("where it should begin", 85, x.fault());
        Check.due("lines of two texts are not counted together", 3, Check.house(x, Check.times(14, "day 2")));
    }

    private static void eightGuests() {
        Check.says("GUESTS (at most 8, numbered from 0 on)");
        Check.says("of a LINE, a GUEST too many, the first word");
        SaturdayKeep x = Check.with(Check.times(8, "guest wish 1 at 1"));
        Check.due("eight in one text", 8, x.count(0));
        Check.due("the last one", 1, x.guest(7, 0));
        Check.outside("no eighth behind 7", () -> x.guest(8, 0));
        Check.wrong("a ninth", () -> Check.house(x, "day 3;  guest wish 1 at 1"));
        Check.due("his first word", 8, x.fault());
        Check.wrong("a ninth who is wrong, too", () -> Check.house(x, "guest at"));
        Check.due("his first word", 0, x.fault());
        Check.wrong("nine in one text", () -> Check.with(Check.times(9, "guest wish 1 at 1")));
        SaturdayKeep y = new SaturdayKeep();
        Check.wrong("nine at once", () -> Check.house(y, Check.times(9, "guest wish 1 at 1")));
        Check.due("the ninth's first word", 144, y.fault());
        Check.due("none of them", 0, y.count(0));
        Check.outside("not even the first", () -> y.guest(0, 0));
        for (int g = 0; g < 8; g++) {
            Check.house(y, "guest wish " + g + " at " + (7 - g));
            Check.due("numbered from 0 on", g, y.guest(g, 1));
            Check.due("guests", g + 1, y.count(0));
        }
    }

    /** The last number that is taken and the first that is refused, in front of a text that is right otherwise. */
    private static void upTo(int most, String ahead, String behind, int what, boolean ofGuest) {
        for (int n : new int[] {0, 1, most - 1, most}) {
            SaturdayKeep x = Check.with(ahead + " " + n + behind);
            Check.due(ahead + " " + n + behind, n, ofGuest ? x.guest(0, what) : x.count(what));
        }
        for (String n : new String[] {String.valueOf(most + 1), "999", "1000", "0000", "-1", "x", ""}) {
            if (!n.equals(String.valueOf(most))) {
                refused(ahead + " " + n + behind, n.isEmpty() && behind.isEmpty() ? ahead.length() + 1
                        : ahead.length() + (n.isEmpty() ? 2 : 1));
            }
        }
    }

    private static void refused(String text, int at) {
        SaturdayKeep x = new SaturdayKeep();
        Check.wrong("house " + text, () -> Check.house(x, text));
        Check.due("fault of " + text, at, x.fault());
        Check.due("texts behind " + text, 0, x.count(1));
        Check.due("guests behind " + text, 0, x.count(0));
        Check.no("tape behind " + text, x.end(1));
    }

    private static void numbersOfTheHouse() {
        Check.says("guest wish N at R [ doubt N ] [ key ] | hole R R | bath R | shift C N | keep C | masons N | stones N | bore N | day N.");
        Check.says("(R: a ROOM 0 to 7; of hole: the second not the first one, else it is wrong; C: 0 or 1; N of stones, of day: 0 to 999.)");
        upTo(10, "guest wish", " at 1", 1, true);
        upTo(7, "guest wish 1 at", "", 0, true);
        upTo(7, "guest wish 1 at", " key", 0, true);
        upTo(99, "guest wish 1 at 1 doubt", "", 2, true);
        upTo(99, "guest wish 1 at 1 doubt", " key", 2, true);
        upTo(7, "bath", "", 4, false);
        upTo(1, "keep", "", 5, false);
        upTo(9, "masons", "", 6, false);
        upTo(999, "stones", "", 7, false);
        upTo(100, "bore", "", 9, false);
        upTo(999, "day", "", 3, false);
        for (int shift = 0; shift <= 6; shift++) {
            Check.due("shift 0", shift, Check.with("shift 0 " + shift).calendar(0, false));
            Check.due("shift 1", shift, Check.with("shift 1 " + shift).calendar(1, false));
        }
        refused("shift 0 7", 8);
        refused("shift 1 7", 8);
        refused("shift 2 0", 6);
        refused("shift 2 7", 6);
        refused("shift 1", 7);
        refused("shift", 5);
    }

    private static void restOfAGuest() {
        Check.says("DOUBT 0 to 99 (0 at first), a KEY or not (not at first), HERE (at first) or away.");
        SaturdayKeep x = Check.with("guest wish 3 at 4;guest wish 3 at 4 doubt 0;guest wish 3 at 4 key;guest wish 3 at 4 doubt 99 key");
        int[][] due = {{0, 0}, {0, 0}, {0, 1}, {99, 1}};
        for (int g = 0; g < 4; g++) {
            Check.due("doubt of " + g, due[g][0], x.guest(g, 2));
            Check.due("key of " + g, due[g][1], x.guest(g, 3));
            Check.due("here " + g, 1, x.guest(g, 4));
        }
        refused("guest wish 3 at 4 key doubt 9", 22);
        refused("guest wish 3 at 4 key key", 22);
        refused("guest wish 3 at 4 doubt 9 doubt 9", 26);
        refused("guest at 4 wish 3", 6);
    }

    private static void holeIntoAnother() {
        Check.says("of hole: the second not the first one, else it is wrong");
        for (int a = 0; a < 8; a++) {
            for (int b = 0; b < 8; b++) {
                String text = "hole " + a + " " + b;
                if (a == b) {
                    refused(text, 7);
                } else {
                    SaturdayKeep x = Check.with(text);
                    Check.due(text, 1 << b, x.room(a, 0));
                    Check.due(text + ", the other way", 0, x.room(b, 0));
                    Check.due(text + ", alone", 1, x.count(11));
                }
            }
        }
        refused("hole 3 003", 7);
        refused("hole 8 8", 5);
        refused("hole 7 8", 7);
        refused("hole 8 7", 5);
        refused("hole 3", 6);
        refused("hole", 4);
        Check.due("told twice it is one", 1, Check.with("hole 3 4;hole 3 4").count(11));
    }

    private static void threeDigits() {
        Check.says("Numbers are of 1 to 3 digits.");
        Check.due("one digit", 7, Check.with("bath 7").count(4));
        Check.due("two", 7, Check.with("bath 07").count(4));
        Check.due("three", 7, Check.with("bath 007").count(4));
        refused("bath 0007", 5);
        refused("bath 00000000000000007", 5);
        refused("bath 4294967297", 5);
        refused("stones 1000", 7);
        refused("day 0999 ", 4);
        refused("hole 0001 2", 5);
        refused("hole 1 0002", 7);
    }

    private static void wordsAndBlanks() {
        Check.says("Words are as long as a to z go on; between all there may be blanks (32), also ahead and behind.");
        SaturdayKeep x = Check.with("  guest  wish3at 4doubt5key  ;bath6;  hole 1  2 ;keep1   ");
        Check.due("guest", 3, x.guest(0, 1));
        Check.due("room", 4, x.guest(0, 0));
        Check.due("doubt", 5, x.guest(0, 2));
        Check.due("key", 1, x.guest(0, 3));
        Check.due("bath", 6, x.count(4));
        Check.due("hole", 4, x.room(1, 0));
        Check.due("keep", 1, x.count(5));
        refused("guestwish 3 at 4", 0);
        refused("guest wishs 3 at 4", 6);
        refused("gue st wish 3 at 4", 0);
        refused("guest wish 3 at 4 keybath 3", 18);
        refused("guest wish 3 at 4 keydoubt 3", 18);
        refused("guest wish 3 at4 ke", 17);
        refused("hole 12", 5);
        refused("bat", 0);
        refused("bath1 7", 6);
        refused("bath 1 7", 7);
        Check.due("a law with hardly a blank", 1, Check.law(x, "doubt1if(key)or 1<2"));
        Check.due("and with many", 1, Check.law(x, "   doubt   1   if   key   "));
    }

    private static final String[] WORDS = {"guest", "room", "wish", "doubted", "towers", "holes", "week", "key", "eve", "at",
        "doubt", "calm", "if", "or", "and", "not", "hole", "bath", "shift", "keep", "masons", "stones", "bore", "day"};
    private static final String SUMS = " guest room wish doubted towers holes week ";

    /** Behind such a text only these words can stand; of each other one the first byte is wrong. */
    private static void wordsBehind(boolean law, String text, String can) {
        for (String word : WORDS) {
            if (!can.contains(" " + word + " ")) {
                if (law) {
                    lawRefused(text + word, text.length());
                } else {
                    refused(text + word, text.length());
                }
            }
        }
    }

    private static void eachWordInItsPlace() {
        Check.says("a word that is none;");
        wordsBehind(false, "", " guest hole bath shift keep masons stones bore day ");
        wordsBehind(false, "day 1 ; ", " guest hole bath shift keep masons stones bore day ");
        wordsBehind(false, "guest ", " wish ");
        wordsBehind(false, "guest wish ", "");
        wordsBehind(false, "guest wish 3 ", " at ");
        wordsBehind(false, "guest wish 3 at ", "");
        wordsBehind(false, "guest wish 3 at 3 ", " doubt key ");
        wordsBehind(false, "guest wish 3 at 3 doubt ", "");
        wordsBehind(false, "guest wish 3 at 3 doubt 3 ", " key ");
        wordsBehind(false, "guest wish 3 at 3 doubt 3 key ", "");
        wordsBehind(false, "hole ", "");
        wordsBehind(false, "hole 1 ", "");
        wordsBehind(false, "hole 1 2 ", "");
        wordsBehind(false, "shift 1 ", "");
        for (String word : new String[] {"bath", "shift", "keep", "masons", "stones", "bore", "day"}) {
            wordsBehind(false, word + " ", "");
            wordsBehind(false, word + " 1 ", "");
        }
        wordsBehind(true, "", " doubt calm ");
        wordsBehind(true, "calm 1;", " doubt calm ");
        wordsBehind(true, "doubt ", "");
        wordsBehind(true, "calm ", "");
        wordsBehind(true, "calm 1 ", " if ");
        for (String begin : new String[] {"if ", "if not ", "if (", "if key and ", "if key or "}) {
            wordsBehind(true, "calm 1 " + begin, SUMS + " key eve not ");
        }
        for (String atom : new String[] {"key ", "eve ", "(key) ", "not key ", "1 < 2 ", "week > 3 ", "1 < 2 + 3 "}) {
            wordsBehind(true, "calm 1 if " + atom, " and or ");
        }
        for (String sum : new String[] {"1 ", "week ", "1 + 2 "}) {
            wordsBehind(true, "calm 1 if " + sum, "");
        }
        for (String begun : new String[] {"1 < ", "1 > ", "1 + ", "1 < 2 + "}) {
            wordsBehind(true, "calm 1 if " + begun, SUMS);
        }
    }

    /** Behind such a text only these signs can stand; a number, where none is told. */
    private static void signsBehind(boolean law, String text, String can) {
        for (char sign : new char[] {';', '(', ')', '<', '>', '+', '7'}) {
            if (can.indexOf(sign) < 0) {
                if (law) {
                    lawRefused(text + sign, text.length());
                } else {
                    refused(text + sign, text.length());
                }
            }
        }
    }

    private static void eachSignInItsPlace() {
        Check.says("the begin of the first thing that cannot stand there");
        signsBehind(false, "", "");
        signsBehind(false, "guest ", "");
        signsBehind(false, "guest wish ", "7");
        signsBehind(false, "guest wish 3 ", "");
        signsBehind(false, "guest wish 3 at 3 ", ";");
        signsBehind(false, "guest wish 3 at 3 doubt ", "7");
        signsBehind(false, "guest wish 3 at 3 key ", ";");
        signsBehind(false, "hole 1 ", "7");
        signsBehind(false, "hole 1 2 ", ";");
        signsBehind(false, "bath 1 ", ";");
        signsBehind(false, "bath 1 ; ", "");
        signsBehind(true, "", "");
        signsBehind(true, "doubt ", "7");
        signsBehind(true, "doubt 1 ", ";");
        signsBehind(true, "doubt 1 ; ", "");
        for (String begin : new String[] {"", "not ", "(", "key and ", "key or "}) {
            signsBehind(true, "doubt 1 if " + begin, "(7");
        }
        signsBehind(true, "doubt 1 if key ", ";");
        signsBehind(true, "doubt 1 if (key ", ")");
        signsBehind(true, "doubt 1 if (key) ", ";");
        signsBehind(true, "doubt 1 if 1 ", "<>+");
        signsBehind(true, "doubt 1 if week ", "<>+");
        signsBehind(true, "doubt 1 if 1 + ", "7");
        signsBehind(true, "doubt 1 if 1 < ", "7");
        signsBehind(true, "doubt 1 if 1 < 2 ", "+;");
        signsBehind(true, "doubt 1 if (1 > 2 ", "+)");
    }

    /** A word of which one letter is another one is none, and neither is one that is longer or shorter. */
    private static void lettersOfWords() {
        Check.says("Words are as long as a to z go on");
        String[] lines = {"guest wish 3 at 3 doubt 3 key", "hole 1 2", "bath 1", "shift 1 1", "keep 1", "masons 1", "stones 1",
            "bore 1", "day 1"};
        String[] law = {"doubt 1 if key and eve or not guest<room", "calm 1 if wish+doubted>towers+holes+week"};
        for (String line : lines) {
            Check.due(line, 1, Check.house(new SaturdayKeep(), line));
            letters(false, line);
        }
        for (String line : law) {
            Check.due(line, 1, Check.law(new SaturdayKeep(), line));
            letters(true, line);
        }
    }

    private static boolean isLetter(String line, int at) {
        return at >= 0 && at < line.length() && line.charAt(at) >= 'a' && line.charAt(at) <= 'z';
    }

    private static void letters(boolean law, String line) {
        for (int i = 0; i < line.length(); i++) {
            int begin = i;
            while (isLetter(line, begin - 1)) {
                begin--;
            }
            if (isLetter(line, i)) {
                String head = line.substring(0, i);
                for (String other : new String[] {"z", "zz", line.substring(i, i + 1) + "z", ""}) {
                    // A word of one letter less that is nothing at all is not looked at.
                    if (!other.isEmpty() || isLetter(line, i + 1) || i > begin) {
                        wordRefused(law, head + other + line.substring(i + 1), begin);
                    }
                }
            }
        }
    }

    private static void wordRefused(boolean law, String text, int at) {
        if (law) {
            lawRefused(text, at);
        } else {
            refused(text, at);
        }
    }

    private static void strangeBytes() {
        Check.says("between all there may be blanks (32)");
        int[] strange = {0, 1, 9, 10, 13, 31, 33, '/', ':', '=', '@', 'A', 'Z', '[', '`', '{', 127, 128, 160, 223, 255};
        for (int sign : strange) {
            refused("" + (char) sign, 0);
            refused("bath" + (char) sign + "1", 4);
            refused("bath 1" + (char) sign, 6);
            refused("bath 1;" + (char) sign, 7);
            lawRefused("doubt 1 if key" + (char) sign, 14);
            lawRefused("doubt 1 if 1 " + (char) sign + " 2", 13);
        }
        for (char sign : new char[] {'(', ')', '<', '>', '+'}) {
            refused("bath " + sign + "1", 5);
            refused("bath 1" + sign, 6);
        }
    }

    private static void noLine() {
        Check.says("A text that is empty, or blanks alone, has no LINE.");
        SaturdayKeep x = Check.with("guest wish 1 at 1");
        Check.due("an empty text is one", 2, Check.house(x, ""));
        Check.due("without a fault", -1, x.fault());
        Check.due("one blank", 3, Check.house(x, " "));
        Check.due("400 blanks", 4, Check.house(x, " ".repeat(400)));
        Check.due("turns without a law", 1, x.guest(0, 6));
        Check.due("an empty law", 0, Check.law(x, ""));
        Check.due("has no line", 0, x.count(2));
        Check.due("so none turns", 0, x.guest(0, 6));
        Check.due("400 blanks", 0, Check.law(x, " ".repeat(400)));
        refused(";", 0);
        refused(" ; ", 1);
        lawRefused(";", 0);
        lawRefused("  ;", 2);
    }

    private static void moreMustCome() {
        Check.says("or the text's length, if more must come");
        String[] begun = {"guest", "guest wish", "guest wish 3", "guest wish 3 at", "guest wish 3 at 3 doubt", "hole", "hole 1",
            "bath", "shift", "shift 1", "keep", "masons", "stones", "bore", "day", "bath 1;"};
        for (String text : begun) {
            refused(text, text.length());
            refused(text + "   ", text.length() + 3);
            refused("day 1 ; " + text, text.length() + 8);
        }
        String[] law = {"doubt", "calm", "doubt 1 if", "doubt 1 if not", "doubt 1 if (", "doubt 1 if (key", "doubt 1 if key and",
            "doubt 1 if key or", "doubt 1 if 1", "doubt 1 if 1 <", "doubt 1 if 1 >", "doubt 1 if 1 +", "doubt 1 if 1 < 1 +",
            "doubt 1 if (1 < 1", "doubt 1;"};
        for (String text : law) {
            lawRefused(text, text.length());
            lawRefused(text + "   ", text.length() + 3);
            lawRefused("calm 1 ; " + text, text.length() + 9);
        }
        refused("bath" + " ".repeat(396), 400);
    }

    private static void nothingStays() {
        Check.says("Of a wrong text nothing stays.");
        SaturdayKeep x = Check.with("guest wish 3 at 3", "doubt 7");
        x.bath(1);
        String[] lines = {"guest wish 4 at 4", "hole 1 2", "bath 5", "shift 0 5", "shift 1 5", "keep 1", "masons 5", "stones 5",
            "bore 5", "day 5"};
        for (String line : lines) {
            Check.wrong(line, () -> Check.house(x, line + ";bath 8"));
            Check.due("fault", line.length() + 6, x.fault());
        }
        int[] due = {1, 1, 1, 0, 1, 0, 1, 100, 0, 0, 0, 0, 1, 0, 0, 1};
        for (int what = 0; what < due.length; what++) {
            Check.due("count(" + what + ")", due[what], x.count(what));
        }
        Check.due("shift 0", 0, x.calendar(0, false));
        Check.due("shift 1", 3, x.calendar(1, false));
        for (String line : new String[] {"doubt 2", "calm 2", "doubt 2 if key or eve"}) {
            Check.wrong(line, () -> Check.law(x, line + ";doubt 31"));
            Check.due("turns by the law as it was", 7, x.guest(0, 6));
            Check.due("lines", 1, x.count(2));
        }
        SaturdayKeep y = Check.with("guest wish 3 at 3");
        Check.wrong("a first law", () -> Check.law(y, "doubt 2;x"));
        Check.due("none", -1, y.count(2));
        Check.due("turns without one", 1, y.guest(0, 6));
    }

    private static void lawRefused(String text, int at) {
        SaturdayKeep x = new SaturdayKeep();
        Check.wrong("law " + text, () -> Check.law(x, text));
        Check.due("fault of " + text, at, x.fault());
        Check.due("lines behind " + text, -1, x.count(2));
        Check.no("tape behind " + text, x.end(1));
    }

    private static void twelveLinesOfLaw() {
        Check.says("LINE { ; LINE }, at most 12: doubt N [ if C ] | calm N [ if C ].");
        SaturdayKeep x = Check.with("guest wish 1 at 1");
        Check.due("one", 1, Check.law(x, "doubt 1"));
        Check.due("11", 11, Check.law(x, Check.times(11, "doubt 1")));
        Check.due("12", 12, Check.law(x, Check.times(12, "doubt 1")));
        Check.due("each of them turns", 12, x.guest(0, 6));
        Check.wrong("13", () -> Check.law(x, Check.times(13, "doubt 1")));
        Check.due("the first word of the 13th", 96, x.fault());
        Check.wrong("a 13th that is none", () -> Check.law(x, Check.times(12, "doubt 1") + ";  if"));
        Check.due("where it should begin", 98, x.fault());
        Check.due("12 stay", 12, x.count(2));
    }

    private static int turns(SaturdayKeep x, String law) {
        Check.law(x, law);
        return x.guest(0, 6);
    }

    private static void turnsOfALine() {
        Check.says("All numbers are of 1 to 3 digits (N 0 to 30).");
        SaturdayKeep x = Check.with("guest wish 1 at 1");
        Check.due("doubt 0", 0, turns(x, "doubt 0"));
        Check.due("doubt 1", 1, turns(x, "doubt 1"));
        Check.due("doubt 30", 30, turns(x, "doubt 30"));
        Check.due("doubt 030", 30, turns(x, "doubt 030"));
        Check.due("calm 0", 0, turns(x, "calm 0"));
        Check.due("calm 30", -30, turns(x, "calm 30"));
        for (String word : new String[] {"doubt", "calm"}) {
            lawRefused(word + " 31", word.length() + 1);
            lawRefused(word + " 100", word.length() + 1);
            lawRefused(word + " 999", word.length() + 1);
            lawRefused(word + " 0030", word.length() + 1);
            lawRefused(word + " -1", word.length() + 1);
        }
    }

    private static void numbersOfTheLaw() {
        Check.says("All numbers are of 1 to 3 digits");
        SaturdayKeep x = Check.with("guest wish 1 at 1");
        Check.due("0", 1, turns(x, "doubt 1 if 0 < 1"));
        Check.due("000", 1, turns(x, "doubt 1 if 000 < 001"));
        Check.due("999", 1, turns(x, "doubt 1 if 999 > 998"));
        Check.due("999 and 1", 1, turns(x, "doubt 1 if 999 + 1 > 999"));
        lawRefused("doubt 1 if 1000 > 1", 11);
        lawRefused("doubt 1 if 1 < 1000", 15);
        lawRefused("doubt 1 if 1 + 0001 > 1", 15);
        lawRefused("doubt 1 if 1 > 1 + 0000", 19);
    }

    /** A fact is just so much: not below, not above. */
    private static void fact(SaturdayKeep x, int guest, String fact, int due) {
        Check.law(x, "doubt 1 if " + fact + " < " + (due + 1) + (due == 0 ? "" : " and " + fact + " > " + (due - 1))
                + ";doubt 2 if " + fact + " < " + due + ";doubt 4 if " + fact + " > " + due);
        Check.due(fact + " of " + guest, 1, x.guest(guest, 6));
    }

    private static void facts() {
        Check.says("Of a GUEST on a DAY: doubted: DOUBT; holes: how many HOLES there are from his ROOM; week: DAY by 7, rounded down;"
                + " key: he has a KEY; eve: the next DAY is SATURDAY by the CALENDAR that is KEPT.");
        SaturdayKeep x = Check.with("guest wish 1 at 7;" + Check.times(6, "guest wish 5 at 3 doubt 50") + ";guest wish 10 at 0 doubt 99 key");
        for (int room = 1; room < 8; room++) {
            x.hole(0, room, true);
        }
        int[][] due = {{0, 7, 1, 0, 0}, {7, 0, 10, 99, 7}};
        String[] facts = {"guest", "room", "wish", "doubted", "holes"};
        for (int i = 0; i < facts.length; i++) {
            fact(x, 0, facts[i], due[0][i]);
            fact(x, 7, facts[i], due[1][i]);
        }
        fact(x, 0, "towers", 0);
        x.masons(9);
        x.days(60);
        fact(x, 0, "towers", 100);
        weeks();
        keyAndEve();
    }

    private static void weeks() {
        int[][] due = {{0, 0}, {6, 0}, {7, 1}, {13, 1}, {14, 2}, {993, 141}, {994, 142}, {999, 142}};
        for (int[] d : due) {
            fact(Check.with("guest wish 0 at 0;day " + d[0]), 0, "week", d[1]);
        }
    }

    private static void keyAndEve() {
        SaturdayKeep x = Check.with("guest wish 0 at 0;guest wish 0 at 0 key", "doubt 1 if key;doubt 2 if not key");
        Check.due("no key", 2, x.guest(0, 6));
        Check.due("a key", 1, x.guest(1, 6));
        for (int day = 0; day < 14; day++) {
            SaturdayKeep y = Check.with("guest wish 0 at 0;shift 0 0;shift 1 1;day " + day, "doubt 1 if eve");
            Check.due("eve of the old one on " + day, day % 7 == 5 ? 1 : 0, y.guest(0, 6));
            y.keep(1);
            Check.due("eve of the new one on " + day, day % 7 == 4 ? 1 : 0, y.guest(0, 6));
        }
    }

    private static void turnsBy() {
        Check.says("TURNS by: the sum of N of all doubt LINES that hold less that of all calm LINES. (Without a text: 1.)");
        SaturdayKeep x = Check.with("guest wish 1 at 1 doubt 50");
        Check.due("without a text", 1, x.guest(0, 6));
        Check.due("the most", 360, turns(x, Check.times(12, "doubt 30")));
        x.days(1);
        Check.due("99 at most", 99, x.guest(0, 2));
        Check.due("the least", -360, turns(x, Check.times(12, "calm 30")));
        x.days(1);
        Check.due("0 at least", 0, x.guest(0, 2));
        Check.due("as much of each", 0, turns(x, "doubt 30;calm 30"));
        Check.due("those that hold", 5, turns(x, "doubt 30 if key;calm 30 if not 1 < 2;doubt 5 if 1 < 2;calm 9 if 2 < 1"));
    }

    private static void sixDeep() {
        Check.says("( and not within one another at most 6 deep.");
        Check.says("the ( or not that is a 7th one deep");
        SaturdayKeep x = Check.with("guest wish 1 at 1 key");
        for (int shape = 0; shape < 64; shape++) {
            StringBuilder begin = new StringBuilder("doubt 1 if ");
            StringBuilder end = new StringBuilder();
            int nots = 0;
            for (int i = 0; i < 6; i++) {
                boolean not = (shape >> i & 1) == 1;
                begin.append(not ? "not " : "(");
                end.append(not ? "" : ")");
                nots += not ? 1 : 0;
            }
            Check.due(begin + "key" + end, nots % 2 == 0 ? 1 : 0, turns(x, begin + "key" + end));
            lawRefused(begin + "(key)" + end, begin.length());
            lawRefused(begin + "not key" + end, begin.length());
            // A not ends with its ATOM, a ( with its ).
            if ((shape >> 5 & 1) == 0) {
                lawRefused(begin + "key or not key" + end, begin.length() + 7);
                lawRefused(begin + "key and (key)" + end, begin.length() + 8);
            }
        }
        Check.due("one behind another is not deeper", 1, turns(x, "doubt 1 if ((((((key)))))) and ((((((key)))))) or not key"));
        Check.due("nor of another line", 2, turns(x, "doubt 1 if ((((((key))))));doubt 1 if not not not not not not key"));
        Check.due("nor behind a not", 1, turns(x, "doubt 1 if not not not not not not key and not not not not not not key"));
        Check.due("what is closed counts no more", 1, turns(x, "doubt 1 if ((((((key)))) and ((((key))))))"));
        lawRefused("doubt 1 if ((((((key) and ((key", 27);
        lawRefused("doubt 1 if ((((((key)))))))", 26);
        lawRefused("doubt 1 if ((((((key)))))", 25);
        lawRefused("doubt 1 if " + "(".repeat(389), 17);
        lawRefused("doubt 1 if " + "not ".repeat(97), 35);
    }

    private static void binding() {
        Check.says("C: ALL { or ALL }; ALL: ATOM { and ATOM }; ATOM: not ATOM | ( C ) | key | eve | SUM < SUM | SUM > SUM.");
        SaturdayKeep x = Check.with("guest wish 1 at 1 key");
        String[] atoms = {"1<0", "0<1"};
        for (int set = 0; set < 8; set++) {
            String a = atoms[set & 1];
            String b = atoms[set >> 1 & 1];
            String c = atoms[set >> 2 & 1];
            boolean p = (set & 1) != 0;
            boolean q = (set & 2) != 0;
            boolean r = (set & 4) != 0;
            Check.due("or, and " + set, p || q && r ? 1 : 0, turns(x, "doubt 1 if " + a + " or " + b + " and " + c));
            Check.due("and, or " + set, p && q || r ? 1 : 0, turns(x, "doubt 1 if " + a + " and " + b + " or " + c));
            Check.due("in brackets " + set, (p || q) && r ? 1 : 0, turns(x, "doubt 1 if (" + a + " or " + b + ") and " + c));
            Check.due("not, and " + set, !p && q || !r ? 1 : 0, turns(x, "doubt 1 if not " + a + " and " + b + " or not " + c));
            Check.due("not of brackets " + set, !(p && q) && !r ? 1 : 0,
                    turns(x, "doubt 1 if not (" + a + " and " + b + ") and not " + c));
        }
        Check.due("equal is neither less", 0, turns(x, "doubt 1 if 5 < 5"));
        Check.due("nor more", 0, turns(x, "doubt 1 if 5 > 5"));
        // as many waiting at once as the six deep allow
        String deep = "1<0 or key and (".repeat(6);
        Check.due("all that may wait", 1, turns(x, "doubt 1 if " + deep + "1<0 or key and 1+1+1>2" + ")".repeat(6)));
        Check.due("and does not hold", 0, turns(x, "doubt 1 if " + deep + "1<0 or key and 1+1+1>3" + ")".repeat(6)));
    }

    private static void inPlaceOfTheOneBefore() {
        Check.says("THE LAW (a text, in place of the one before)");
        SaturdayKeep x = Check.with("guest wish 1 at 1");
        Check.due("a long one", 12, turns(x, Check.times(12, "doubt 1 if 1 < 2")));
        Check.due("a short one in its place", -3, turns(x, "calm 3"));
        Check.due("lines", 1, x.count(2));
        Check.due("none in its place", 0, turns(x, ""));
        Check.due("a long one again", 11, turns(x, Check.times(11, "doubt 1 if 1 < 2")));
    }

    private static void firstWrongByte() {
        Check.says("The first wrong byte: the begin of the first thing that cannot stand there (a number of more digits,"
                + " or out of its bounds, or that tells none that can be; a word that is none;");
        refused("bath 1 ; keep 1 ; bsth 3 ; keep 9", 18);
        refused("  bath  9", 8);
        refused("  bath  1234", 8);
        refused("hole 5 5;bath 9", 7);
        refused("wish 3", 0);
        refused("key", 0);
        refused("if", 0);
        refused("guest wish 3 at 3 if", 18);
        refused("guest wish at 3", 11);
        refused("guest 3", 6);
        refused("doubt 3", 0);
        refused("1", 0);
        lawRefused("bath 3", 0);
        lawRefused("doubt 3 if bath", 11);
        lawRefused("doubt 3 if doubt < 3", 11);
        lawRefused("doubt 3 if weeks < 3", 11);
        lawRefused("doubt 3 if key < 3", 15);
        lawRefused("doubt 3 if eve + 1 > 3", 15);
        lawRefused("doubt 3 if 3 < eve", 15);
        lawRefused("doubt 3 if (3 + room) < 9", 20);
        lawRefused("doubt 3 if (3) < 9", 13);
        lawRefused("doubt 3 if 3 < (9)", 15);
        lawRefused("doubt 3 if 1 < 2 < 3", 17);
        lawRefused("doubt 3 if 1 < 2 > 3", 17);
        lawRefused("doubt 3 if 1 2", 13);
        lawRefused("doubt 3 if 1 and key", 13);
        lawRefused("doubt 3 if key not eve", 15);
        lawRefused("doubt 3 if and", 11);
        lawRefused("doubt 3 if key and and key", 19);
        lawRefused("doubt 3 if not", 14);
        lawRefused("doubt 3 if not and", 15);
        lawRefused("doubt 3 if if key", 11);
        lawRefused("doubt 3 if key if eve", 15);
        lawRefused("doubt 3 if key doubt 4", 15);
        lawRefused("doubt 3 or key", 8);
        lawRefused("doubt key", 6);
    }

    private static void faultOfTheLatest() {
        Check.says("The first wrong byte of the latest text that was read; NONE without one, and ahead of any.");
        SaturdayKeep x = new SaturdayKeep();
        Check.due("ahead of any", -1, x.fault());
        Check.house(x, "bath 1");
        Check.due("without one", -1, x.fault());
        Check.wrong("house", () -> Check.house(x, "bath 9"));
        Check.due("of the house", 5, x.fault());
        Check.due("asked twice", 5, x.fault());
        Check.wrong("law", () -> Check.law(x, "calm 99"));
        Check.due("of the law, as the latest", 5, x.fault());
        Check.law(x, "calm 9");
        Check.due("without one", -1, x.fault());
        Check.wrong("at the very begin", () -> Check.house(x, "?"));
        Check.due("0 is a place", 0, x.fault());
        Check.tape(x, 6, 2);
        Check.wrong("no text", x::shifts);
        Check.due("what is told is no text", 0, x.fault());
        x.bath(3);
        x.undo();
        x.image();
        x.back();
        Check.due("nor is it undone", 0, x.fault());
    }
}
