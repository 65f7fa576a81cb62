/** Promises 55 to 58: the seed, acts undone, the image. */
public final class KeepingTest {
    private static final String HOUSE = "guest wish 10 at 3 doubt 60;guest wish 8 at 2 doubt 20 key;guest wish 9 at 4 doubt 70;"
            + "hole 4 3;bath 3;bore 60;day 2";

    public static void main(String[] args) {
        seed();
        undoAll();
        undoOfEach();
        thirteenth();
        forgotten();
        image();
        imageOfAll();
        imageOfTheLog();
        Check.end("KeepingTest");
    }

    private static void seed() {
        SaturdayKeep x = new SaturdayKeep();
        Check.due("at first", 1, x.seed(-5));
        Check.due("any number", -5, x.seed(Integer.MIN_VALUE));
        Check.due("the least", Integer.MIN_VALUE, x.seed(0));
        Check.due("no act", 0, x.count(15));
        x.days(1);
        Check.due("a draw", 12345, x.seed(1));
        x.days(1);
        Check.due("a draw goes round", 1103527590, x.seed(1));
    }

    private static String brief(SaturdayKeep x) {
        StringBuilder text = new StringBuilder();
        for (int what = 0; what < 15; what++) {
            text.append(x.count(what)).append(' ');
        }
        int seed = x.seed(0);
        x.seed(seed);
        return text.append(seed).append(' ').toString();
    }

    private static String all(SaturdayKeep x) {
        StringBuilder text = new StringBuilder(brief(x));
        for (int g = 0; g < x.count(0); g++) {
            for (int what = 0; what < 9; what++) {
                text.append(x.guest(g, what)).append(' ');
            }
        }
        for (int room = 0; room < 8; room++) {
            text.append(x.room(room, 0)).append(' ');
        }
        for (int ago = 0; ago < 3; ago++) {
            text.append(x.log(ago, 0)).append(' ').append(x.log(ago, 1)).append(' ');
        }
        return text.append(x.calendar(0, false)).append(x.calendar(1, false)).toString();
    }

    private static void act(SaturdayKeep x, int which) {
        switch (which) {
            case 0: x.go(0, 5); break;
            case 1: x.come(1, false); break;
            case 2: x.key(2, true); break;
            case 3: x.hole(1, 6, true); break;
            case 4: x.hole(4, 3, false); break;
            case 5: x.bath(4); break;
            case 6: x.keep(1); break;
            case 7: x.masons(7); break;
            case 8: x.buy(50); break;
            case 9: x.calm(2); break;
            default: x.days(30); break;
        }
    }

    private static void undoOfEach() {
        for (int which = 0; which <= 10; which++) {
            SaturdayKeep x = Check.with(HOUSE);
            x.days(5);
            String before = all(x);
            act(x, which);
            Check.no("act " + which + " changes something", before.equals(all(x)));
            Check.due("two acts", 2, x.count(15));
            Check.yes("undone", x.undo());
            Check.yes("as ahead of act " + which, before.equals(all(x)));
            Check.due("one act", 1, x.count(15));
        }
    }

    private static void undoAll() {
        SaturdayKeep x = Check.with(HOUSE);
        Check.no("nothing to undo", x.undo());
        String[] before = new String[11];
        for (int which = 0; which <= 10; which++) {
            before[which] = brief(x);
            act(x, which);
        }
        x.seed(4711);
        Check.tape(x, "bath 1");
        for (int which = 10; which >= 0; which--) {
            Check.yes("undo " + which, x.undo());
            Check.yes("as ahead of " + which + ", the seed, too", before[which].equals(brief(x)));
        }
        Check.no("none is left", x.undo());
        Check.yes("the tape is as it was", x.end(6));
        x.bath(1);
        x.undo();
        x.bath(2);
        x.bath(5);
        Check.yes("the latest not undone", x.undo());
        Check.due("ahead of bath(5)", 2, x.count(4));
        Check.yes("then the one before", x.undo());
        Check.due("ahead of bath(2)", 3, x.count(4));
        Check.no("the undone one is gone", x.undo());
    }

    private static void thirteenth() {
        SaturdayKeep x = new SaturdayKeep();
        for (int n = 1; n <= 12; n++) {
            x.buy(n);
            Check.due("acts", n, x.count(15));
        }
        int stones = x.count(7);
        x.buy(900);
        Check.due("twelve are remembered", 12, x.count(15));
        Check.yes("undo", x.undo());
        Check.due("stones", stones, x.count(7));
        Check.due("the first one does not come back", 11, x.count(15));
        for (int n = 12; n >= 2; n--) {
            Check.yes("undo", x.undo());
            stones -= n;
            Check.due("stones", stones, x.count(7));
        }
        Check.no("the first one is remembered no more", x.undo());
        Check.due("stones", 101, x.count(7));
    }

    private static void forgotten() {
        SaturdayKeep x = Check.with(HOUSE);
        x.bath(1);
        Check.house(x, "");
        Check.no("a text of the house: none", x.undo());
        x.bath(2);
        Check.law(x, "");
        Check.no("a law: none", x.undo());
        x.image();
        x.bath(4);
        Check.yes("back", x.back());
        Check.no("going back: none", x.undo());
        Check.due("bath", 2, x.count(4));
        x.bath(6);
        Check.tape(x, "bath 9");
        Check.wrong("a wrong text", x::house);
        Check.tape(x, "calm");
        Check.wrong("a wrong law", x::law);
        x.image();
        x.trial(9, true);
        x.seed(9);
        Check.yes("these forget nothing", x.undo());
        Check.due("bath", 2, x.count(4));
        x.image();
        x.bath(6);
        Check.due("the image is no act", 1, x.count(15));
        SaturdayKeep y = new SaturdayKeep();
        y.bath(1);
        Check.no("no image", y.back());
        Check.yes("nothing happened", y.undo());
    }

    private static void image() {
        SaturdayKeep x = Check.with(HOUSE);
        Check.no("none was kept", x.back());
        x.image();
        x.bath(5);
        Check.yes("back", x.back());
        Check.due("bath", 3, x.count(4));
        x.bath(5);
        x.image();
        x.undo();
        Check.due("undone", 3, x.count(4));
        Check.yes("the later image", x.back());
        Check.due("bath", 5, x.count(4));
        x.bath(7);
        Check.yes("it stays", x.back());
        Check.yes("and once more", x.back());
        Check.due("bath", 5, x.count(4));
    }

    private static void imageOfAll() {
        SaturdayKeep x = Check.with(HOUSE, "doubt 3");
        x.days(20);
        String before = all(x);
        x.image();
        for (int which = 0; which <= 10; which++) {
            act(x, which);
        }
        Check.house(x, "guest wish 1 at 1;shift 0 4;shift 1 1;bore 3;day 3");
        Check.law(x, "calm 1;calm 2");
        x.seed(5);
        Check.tape(x, "calm 1;x");
        Check.wrong("a wrong law", x::law);
        Check.tape(x, "bath 1");
        Check.no("all is another", before.equals(all(x)));
        Check.yes("back", x.back());
        Check.yes("all is as it was", before.equals(all(x)));
        Check.due("turns by the law as it was", 3, x.guest(0, 6));
        Check.due("but for the fault", 7, x.fault());
        Check.yes("and the tape", x.end(6));
        Check.due("texts", 2, x.house());
    }

    /** The log is a ring: more looks than it holds must not show through behind going back. */
    private static void imageOfTheLog() {
        StringBuilder text = new StringBuilder("day 6");
        for (int g = 0; g < 8; g++) {
            text.append(";guest wish 10 at 0 doubt 99");
        }
        SaturdayKeep x = Check.with(text.toString());
        x.days(1);
        x.image();
        x.come(0, false);
        x.days(60);
        x.days(20);
        Check.due("a full log", 60, x.count(14));
        x.back();
        for (int ago = 0; ago < 8; ago++) {
            Check.due("day of row " + ago, 6, x.log(ago, 0));
            Check.due("guest of row " + ago, 7 - ago, x.log(ago, 1));
        }
        Check.due("no more", -1, x.log(8, 0));
        x.days(60);
        x.days(20);
        x.undo();
        x.undo();
        Check.due("undone", 6, x.log(7, 0));
    }
}
