/** Promises 11 to 19: acts, what they answer, and that a refused one changes nothing and is no act. */
public final class ActsTest {
    private static final String HOUSE = "guest wish 8 at 2 doubt 60;guest wish 5 at 1 doubt 7 key";

    public static void main(String[] args) {
        go();
        come();
        key();
        hole();
        bath();
        keep();
        masons();
        buy();
        calm();
        Check.end("ActsTest");
    }

    private static void acts(SaturdayKeep x, int due) {
        Check.due("acts", due, x.count(15));
    }

    private static void go() {
        SaturdayKeep x = Check.with(HOUSE);
        Check.due("go(0, 7)", 2, x.go(0, 7));
        Check.due("there", 7, x.guest(0, 0));
        Check.due("the other stays", 1, x.guest(1, 0));
        Check.due("go to his own room", 7, x.go(0, 7));
        acts(x, 2);
        x.come(1, false);
        Check.due("one away goes", 1, x.go(1, 0));
        Check.due("there", 0, x.guest(1, 0));
        Check.outside("go(2, 0)", () -> x.go(2, 0));
        Check.outside("go(-1, 0)", () -> x.go(-1, 0));
        Check.outside("go(0, 8)", () -> x.go(0, 8));
        Check.outside("go(0, -1)", () -> x.go(0, -1));
        acts(x, 4);
        Check.due("still there", 7, x.guest(0, 0));
        x.undo();
        Check.due("undone", 1, x.guest(1, 0));
    }

    private static void come() {
        SaturdayKeep x = Check.with(HOUSE);
        Check.no("he is here", x.come(0, true));
        Check.yes("he is sent away", x.come(0, false));
        Check.due("the other is here", 2, x.count(12));
        Check.no("he is away", x.come(0, false));
        Check.yes("he comes", x.come(0, true));
        Check.due("both are here", 3, x.count(12));
        acts(x, 4);
        Check.outside("come(2, true)", () -> x.come(2, true));
        Check.outside("come(-1, false)", () -> x.come(-1, false));
        acts(x, 4);
        x.undo();
        Check.due("undone", 2, x.count(12));
    }

    private static void key() {
        SaturdayKeep x = Check.with(HOUSE);
        Check.no("he has one", x.key(1, true));
        Check.yes("he gives it", x.key(1, false));
        Check.due("none", 0, x.guest(1, 3));
        Check.no("he has none", x.key(1, false));
        Check.yes("the other is given one", x.key(0, true));
        Check.due("he sees beside", 14, x.guest(0, 7));
        acts(x, 4);
        Check.outside("key(2, true)", () -> x.key(2, true));
        Check.outside("key(-1, true)", () -> x.key(-1, true));
        acts(x, 4);
        x.undo();
        Check.due("undone", 4, x.guest(0, 7));
    }

    private static void hole() {
        SaturdayKeep x = new SaturdayKeep();
        Check.yes("bored", x.hole(0, 7, true));
        Check.no("it is there", x.hole(0, 7, true));
        Check.due("one way alone", 0, x.room(7, 0));
        Check.no("none the other way", x.hole(7, 0, false));
        Check.yes("the other way", x.hole(7, 0, true));
        Check.due("two", 2, x.count(11));
        Check.yes("mended", x.hole(0, 7, false));
        Check.due("one", 1, x.count(11));
        Check.due("the other one", 1, x.room(7, 0));
        acts(x, 5);
        Check.wrong("hole(3, 3)", () -> x.hole(3, 3, true));
        Check.outside("hole(8, 8): no such room is told first", () -> x.hole(8, 8, true));
        Check.outside("hole(8, 0)", () -> x.hole(8, 0, true));
        Check.outside("hole(0, 8)", () -> x.hole(0, 8, false));
        Check.outside("hole(-1, 0)", () -> x.hole(-1, 0, true));
        Check.outside("hole(0, -1)", () -> x.hole(0, -1, true));
        acts(x, 5);
        Check.due("still one", 1, x.count(11));
    }

    private static void bath() {
        SaturdayKeep x = new SaturdayKeep();
        Check.due("bath(7)", 0, x.bath(7));
        Check.due("bath(7) again", 7, x.bath(7));
        Check.due("there", 7, x.count(4));
        Check.outside("bath(8)", () -> x.bath(8));
        Check.outside("bath(-1)", () -> x.bath(-1));
        acts(x, 2);
        Check.due("there", 7, x.count(4));
    }

    private static void keep() {
        SaturdayKeep x = new SaturdayKeep();
        Check.due("keep(1)", 0, x.keep(1));
        Check.due("kept", 1, x.count(5));
        Check.due("keep(0)", 1, x.keep(0));
        Check.due("keep(0) again", 0, x.keep(0));
        Check.outside("keep(2)", () -> x.keep(2));
        Check.outside("keep(-1)", () -> x.keep(-1));
        acts(x, 3);
        Check.due("kept", 0, x.count(5));
        SaturdayKeep y = Check.with("guest wish 1 at 1;day 2", "doubt 4 if eve");
        Check.due("no eve by the old one", 0, y.guest(0, 6));
        y.keep(1);
        Check.due("an eve by the new one", 4, y.guest(0, 6));
    }

    private static void masons() {
        SaturdayKeep x = new SaturdayKeep();
        Check.due("masons(9)", 1, x.masons(9));
        Check.due("masons(0)", 9, x.masons(0));
        Check.due("none", 0, x.count(6));
        Check.wrong("masons(10)", () -> x.masons(10));
        Check.wrong("masons(-1)", () -> x.masons(-1));
        acts(x, 2);
        x.days(3);
        Check.due("none build", 0, x.count(8));
    }

    private static void buy() {
        SaturdayKeep x = new SaturdayKeep();
        Check.due("buy(1)", 101, x.buy(1));
        Check.due("buy(999)", 1100, x.buy(999));
        Check.wrong("buy(0)", () -> x.buy(0));
        Check.wrong("buy(1000)", () -> x.buy(1000));
        Check.wrong("buy(-5)", () -> x.buy(-5));
        acts(x, 2);
        Check.due("stones", 1100, x.count(7));
        for (int i = 0; i < 8; i++) {
            x.buy(999);
        }
        Check.due("stones", 9092, x.count(7));
        Check.due("9999 at most", 9999, x.buy(999));
        Check.due("9999 at most", 9999, x.buy(1));
    }

    private static void calm() {
        SaturdayKeep x = Check.with(HOUSE);
        Check.due("calm(1)", 3, x.calm(1));
        Check.due("calm(1)", 1, x.calm(1));
        Check.due("calm(1)", 0, x.calm(1));
        Check.due("calm(1)", 0, x.calm(1));
        Check.due("the other's doubt", 60, x.guest(0, 2));
        x.come(0, false);
        Check.due("one away is calmed", 30, x.calm(0));
        Check.due("less risk", 4, x.guest(0, 5));
        Check.outside("calm(2)", () -> x.calm(2));
        Check.outside("calm(-1)", () -> x.calm(-1));
        acts(x, 6);
    }
}
