/** The document's edges, sentence by sentence: acts undone, the image, counts, and 512 calls. */
public final class EdgesOfKeepingTest {
    private static final int LEAST = Integer.MIN_VALUE;
    private static final int MOST = Integer.MAX_VALUE;
    private static final String HOUSE = "guest wish 10 at 0 doubt 99;guest wish 4 at 3;bore 100;day 6";

    public static void main(String[] args) {
        noActLeft();
        twelveActs();
        thirteenthAct();
        manyActs();
        daysAreOneAct();
        whatIsAnAct();
        actsThatChangeNothing();
        butForTheTape();
        butForTheImage();
        butForTheFault();
        textsForget();
        goingBackForgets();
        noImage();
        oneImage();
        imageOfAll();
        imageBeforeATextMore();
        counts();
        fiveHundredAndTwelveCalls();
        Check.end("EdgesOfKeepingTest");
    }

    private static void noActLeft() {
        Check.says("UNDONE: whether there was one.");
        SaturdayKeep x = new SaturdayKeep();
        Check.no("none yet", x.undo());
        Check.no("still none", x.undo());
        x.bath(3);
        Check.yes("one", x.undo());
        Check.no("none is left", x.undo());
        Check.due("where it was", 0, x.count(4));
        Check.due("none is counted", 0, x.count(15));
        x.bath(5);
        Check.due("one again", 1, x.count(15));
        Check.yes("one again", x.undo());
    }

    private static void twelveActs() {
        Check.says("UNDONE: the latest ACT not undone yet (12 are remembered;");
        SaturdayKeep x = new SaturdayKeep();
        for (int n = 1; n <= 12; n++) {
            x.buy(1);
            Check.due("acts", n, x.count(15));
        }
        for (int n = 11; n >= 0; n--) {
            Check.yes("undone", x.undo());
            Check.due("stones", 100 + n, x.count(7));
            Check.due("acts", n, x.count(15));
        }
        Check.no("none is left", x.undo());
        Check.due("all is as at first", 100, x.count(7));
    }

    private static void thirteenthAct() {
        Check.says("an ACT that went as the thirteenth came is remembered no more");
        SaturdayKeep x = new SaturdayKeep();
        for (int n = 1; n <= 13; n++) {
            x.buy(1);
        }
        Check.due("acts", 12, x.count(15));
        for (int n = 12; n >= 1; n--) {
            Check.yes("undone", x.undo());
            Check.due("stones", 100 + n, x.count(7));
        }
        Check.no("the first one went", x.undo());
        Check.due("and stays done", 101, x.count(7));
    }

    private static void manyActs() {
        Check.says("the latest ACT not undone yet");
        SaturdayKeep x = new SaturdayKeep();
        for (int n = 1; n <= 30; n++) {
            x.buy(n);
        }
        int stones = 100 + 30 * 31 / 2;
        Check.due("stones", stones, x.count(7));
        for (int n = 30; n > 25; n--) {
            Check.yes("undone", x.undo());
            stones -= n;
            Check.due("stones", stones, x.count(7));
        }
        Check.due("acts", 7, x.count(15));
        for (int n = 1; n <= 6; n++) {
            x.buy(500 + n);
        }
        Check.due("12 at most", 12, x.count(15));
        for (int n = 6; n >= 1; n--) {
            Check.yes("undone", x.undo());
        }
        Check.due("as ahead of the six", stones, x.count(7));
        for (int n = 25; n > 19; n--) {
            Check.yes("undone", x.undo());
            stones -= n;
            Check.due("stones", stones, x.count(7));
        }
        Check.no("the one that went with the 13th does not come back", x.undo());
        Check.due("stones", stones, x.count(7));
    }

    private static void daysAreOneAct() {
        Check.says("DAYS of one call are one");
        SaturdayKeep x = Check.with(HOUSE);
        x.days(60);
        Check.due("one", 1, x.count(15));
        Check.yes("undone", x.undo());
        Check.due("day", 6, x.count(3));
        Check.due("SEEN", 0, x.count(10));
        Check.due("rows", 0, x.count(14));
        Check.due("holes", 0, x.count(11));
        Check.due("towers", 0, x.count(8));
        Check.due("stones", 100, x.count(7));
        Check.due("doubt", 0, x.guest(1, 2));
        Check.due("the same days again", 9, x.days(60));
        Check.due("a SEED as ahead of it", Check.seedAfter(1, 9 + 120), x.seed(1));
    }

    private static void whatIsAnAct() {
        Check.says("ACTS: a GUEST goes to a ROOM; is sent away, or comes; has a KEY, or not; a HOLE is bored, or mended;"
                + " THE BATH is carried to a ROOM; a CALENDAR is KEPT; MASONS are told; STONES are bought;"
                + " a GUEST is calmed (DOUBT half, rounded down); DAYS.");
        SaturdayKeep x = Check.with(HOUSE);
        x.go(0, 1);
        x.come(0, false);
        x.key(0, true);
        x.hole(0, 1, true);
        x.hole(0, 1, false);
        x.bath(1);
        x.keep(1);
        x.masons(2);
        x.buy(1);
        x.calm(0);
        x.days(1);
        Check.due("eleven acts", 11, x.count(15));
        x.image();
        x.seed(3);
        x.trial(60, true);
        x.span(60, true);
        x.ahead(0, 400, 0);
        x.first(0, 99);
        x.gone();
        x.stand(9);
        x.spread(400);
        x.lodge(0);
        x.sent(0);
        x.shifts();
        Check.due("these are none", 11, x.count(15));
    }

    private static void actsThatChangeNothing() {
        Check.says("UNDONE: the latest ACT not undone yet");
        SaturdayKeep x = Check.with(HOUSE);
        x.go(1, 3);
        x.come(0, true);
        x.key(0, false);
        x.hole(0, 1, false);
        x.bath(0);
        x.keep(0);
        x.masons(1);
        x.calm(1);
        Check.due("acts all the same", 8, x.count(15));
        for (int n = 7; n >= 0; n--) {
            Check.yes("undone", x.undo());
            Check.due("acts", n, x.count(15));
        }
    }

    private static void butForTheTape() {
        Check.says("all is as ahead of it (but for the TAPE, fault(), THE IMAGE;");
        SaturdayKeep x = new SaturdayKeep();
        x.bath(1);
        Check.tape(x, "bath 3");
        x.bath(2);
        x.feed(0x3b626174, 0x68203420, 0x20202020, 0x20202020, 0x20202020);
        Check.yes("undone", x.undo());
        Check.yes("all bytes are there", x.end(26));
        Check.yes("undone", x.undo());
        Check.no("not one more", x.end(27));
        Check.yes("all bytes are there", x.end(13));
        Check.due("the text", 1, x.house());
        Check.due("as it was fed", 4, x.count(4));
        x.bath(5);
        Check.tape(x, "bath 6");
        x.end(0);
        x.undo();
        Check.no("nor does a tape come back", x.end(1));
    }

    private static void butForTheImage() {
        Check.says("(but for the TAPE, fault(), THE IMAGE;");
        SaturdayKeep x = new SaturdayKeep();
        x.bath(1);
        x.image();
        x.undo();
        Check.due("undone", 0, x.count(4));
        Check.yes("the image stays", x.back());
        Check.due("gone back to", 1, x.count(4));
        x.bath(2);
        x.bath(3);
        x.image();
        x.undo();
        x.undo();
        Check.yes("the later one", x.back());
        Check.due("gone back to", 3, x.count(4));
    }

    private static void butForTheFault() {
        Check.says("(but for the TAPE, fault(), THE IMAGE;");
        SaturdayKeep x = new SaturdayKeep();
        x.image();
        x.bath(1);
        Check.wrong("a wrong text", () -> Check.house(x, "day 1;x"));
        Check.yes("it forgets no act", x.undo());
        Check.due("undone, the fault stays", 6, x.fault());
        Check.yes("back", x.back());
        Check.due("gone back, the fault stays", 6, x.fault());
    }

    private static void textsForget() {
        Check.says("A text, going back: none are remembered.");
        SaturdayKeep x = Check.with(HOUSE);
        x.bath(1);
        x.bath(2);
        Check.house(x, "");
        Check.due("none", 0, x.count(15));
        Check.no("none", x.undo());
        x.bath(3);
        Check.law(x, "");
        Check.due("none", 0, x.count(15));
        Check.no("none", x.undo());
        Check.due("all stays", 3, x.count(4));
        x.bath(4);
        Check.wrong("a wrong text of the house", () -> Check.house(x, "bath"));
        Check.wrong("a wrong law", () -> Check.law(x, "bath"));
        Check.due("changes nothing", 1, x.count(15));
        Check.yes("one", x.undo());
        for (int n = x.count(1); n < 12; n++) {
            Check.house(x, "");
        }
        x.bath(5);
        Check.thrown("a 13th text", UnsupportedOperationException.class, () -> Check.house(x, ""));
        Check.due("changes nothing", 1, x.count(15));
        Check.yes("one", x.undo());
        Check.due("undone", 3, x.count(4));
        for (int n = 0; n < 12; n++) {
            x.bath(n % 8);
        }
        Check.law(x, "doubt 1");
        x.bath(6);
        Check.due("counted from the text on", 1, x.count(15));
        Check.yes("one", x.undo());
        Check.no("none", x.undo());
    }

    private static void goingBackForgets() {
        Check.says("A text, going back: none are remembered.");
        SaturdayKeep x = new SaturdayKeep();
        x.bath(1);
        Check.no("nothing happens", x.back());
        Check.due("one act", 1, x.count(15));
        x.image();
        Check.due("keeping forgets none", 1, x.count(15));
        x.bath(2);
        Check.yes("back", x.back());
        Check.due("none", 0, x.count(15));
        Check.no("not even those ahead of the image", x.undo());
        Check.due("bath", 1, x.count(4));
    }

    private static void noImage() {
        Check.says("One goes back to THE IMAGE: true; false, and nothing happens, if none was kept.");
        SaturdayKeep x = Check.with(HOUSE);
        x.days(9);
        int seed = x.seed(0);
        x.seed(seed);
        Check.no("none was kept", x.back());
        Check.due("day", 15, x.count(3));
        Check.due("acts", 1, x.count(15));
        Check.due("guests", 2, x.count(0));
        Check.due("SEED", seed, x.seed(seed));
        x.image();
        Check.yes("one was kept", x.back());
        Check.yes("and may be gone back to again", x.back());
    }

    private static void oneImage() {
        Check.says("THE IMAGE (one) of all may be kept, and gone back to (but for the TAPE, fault() and THE IMAGE itself).");
        SaturdayKeep x = new SaturdayKeep();
        x.bath(1);
        x.image();
        x.bath(2);
        x.image();
        x.bath(3);
        Check.yes("back", x.back());
        Check.due("to the later one", 2, x.count(4));
        x.bath(4);
        Check.yes("back", x.back());
        Check.due("to the same", 2, x.count(4));
        Check.tape(x, "bath 7");
        Check.yes("back", x.back());
        Check.due("the tape stays", 1, x.house());
        Check.due("bath", 7, x.count(4));
    }

    private static void imageOfAll() {
        Check.says("THE IMAGE (one) of all may be kept, and gone back to");
        SaturdayKeep x = new SaturdayKeep();
        x.image();
        Check.house(x, HOUSE + ";shift 0 1;shift 1 2;keep 1;hole 1 2;masons 4;stones 40;bath 3;bore 50");
        Check.law(x, "doubt 2;calm 1 if key");
        x.seed(99);
        x.days(60);
        Check.yes("back to a house without guests", x.back());
        int[] due = {0, 0, -1, 0, 0, 0, 1, 100, 0, 0, 0, 0, 0, 0, 0, 0, -1};
        for (int what = 0; what < due.length; what++) {
            Check.due("count(" + what + ")", due[what], x.count(what));
        }
        Check.due("shift 0", 0, x.calendar(0, false));
        Check.due("shift 1", 3, x.calendar(1, false));
        Check.due("no row", -1, x.log(0, 0));
        Check.due("SEED", 1, x.seed(1));
        Check.outside("no guest", () -> x.guest(0, 0));
        Check.house(x, "guest wish 1 at 1");
        Check.due("without a law", 1, x.guest(0, 6));
    }

    private static void imageBeforeATextMore() {
        Check.says("THE HOUSE is told in texts (at most 12, one behind another)");
        SaturdayKeep x = new SaturdayKeep();
        for (int n = 1; n <= 11; n++) {
            Check.house(x, "");
        }
        x.image();
        Check.due("the 12th", 12, Check.house(x, "guest wish 1 at 1"));
        Check.thrown("the 13th", UnsupportedOperationException.class, () -> Check.house(x, ""));
        Check.yes("back ahead of the 12th", x.back());
        Check.due("texts", 11, x.count(1));
        Check.due("guests", 0, x.count(0));
        Check.due("the 12th again", 12, Check.house(x, "guest wish 2 at 2"));
        Check.due("the guest of it", 2, x.guest(0, 1));
    }

    private static void counts() {
        Check.says("0 GUESTS, 1 texts of THE HOUSE, 2 LINES of THE LAW (NONE without one), 3 DAY, 4 the ROOM of THE BATH,"
                + " 5 the CALENDAR that is KEPT, 6 MASONS, 7 STONES, 8 TOWERS, 9 BORE, 10 SEEN, 11 HOLES, 12 GUESTS HERE, as bits,"
                + " 13 DOUBT of all HERE together, 14 rows of THE LOG, 15 acts that can be UNDONE. NONE for another what.");
        SaturdayKeep x = Check.with(Check.times(8, "guest wish 10 at 7 doubt 99") + ";bath 7;keep 1;masons 9;bore 100;day 999");
        Check.law(x, Check.times(12, "doubt 30"));
        int[] due = {8, 1, 12, 999, 7, 1, 9, 100, 0, 100, 0, 0, 255, 792, 0, 0};
        for (int what = 0; what < due.length; what++) {
            Check.due("count(" + what + ")", due[what], x.count(what));
        }
        for (int what : new int[] {LEAST, -1, 16, 17, MOST}) {
            Check.due("count(" + what + ")", -1, x.count(what));
        }
        Check.law(x, "");
        Check.due("a law without a LINE", 0, x.count(2));
        for (int g = 0; g < 8; g++) {
            x.come(g, false);
        }
        Check.due("none here", 0, x.count(12));
        Check.due("no doubt of those here", 0, x.count(13));
        Check.due("guests all the same", 8, x.count(0));
    }

    private static void fiveHundredAndTwelveCalls() {
        Check.says("An object is used for at most 512 calls after it has been made");
        SaturdayKeep x = new SaturdayKeep();
        for (int n = 1; n <= 511; n++) {
            x.bath(n % 8);
        }
        Check.due("the 512th call", 511 % 8, x.count(4));
        SaturdayKeep y = Check.with("guest wish 1 at 1");
        for (int n = 1; n <= 102; n++) {
            y.feed(0x646f7562, 0x74203130, 0x20202020, 0x20202020, 0x20202020);
            Check.yes("eight bytes", y.end(8));
            Check.due("a law in place of a law", 1, y.law());
            Check.due("it turns", 10, y.guest(0, 6));
            Check.due("without a fault", -1, y.fault());
        }
    }
}
