/** Promises 36 to 39: which shifts and weeks fit what is told, and what to ask. */
public final class AskingTest {
    public static void main(String[] args) {
        whichShifts();
        whichDayToAsk();
        whichWeeks();
        whichWeekToLook();
        refused();
        Check.end("AskingTest");
    }

    private static int shifts(int... told) {
        SaturdayKeep x = new SaturdayKeep();
        Check.tape(x, told);
        int answer = x.shifts();
        Check.no("the tape is used up", x.end(1));
        return answer;
    }

    private static int ask(int... told) {
        SaturdayKeep x = new SaturdayKeep();
        Check.tape(x, told);
        int answer = x.ask();
        Check.no("the tape is used up", x.end(1));
        return answer;
    }

    private static int bored(boolean least, int... told) {
        SaturdayKeep x = new SaturdayKeep();
        Check.tape(x, told);
        int answer = x.bored(least);
        Check.no("the tape is used up", x.end(1));
        return answer;
    }

    private static int look(int... told) {
        SaturdayKeep x = new SaturdayKeep();
        Check.tape(x, told);
        int answer = x.look();
        Check.no("the tape is used up", x.end(1));
        return answer;
    }

    private static void whichShifts() {
        Check.due("none told", 127, shifts());
        for (int day = 0; day < 7; day++) {
            Check.due("Saturday on " + day, 1 << 6 - day, shifts(day, 1));
            Check.due("none on " + day, 127 ^ 1 << 6 - day, shifts(day, 0));
        }
        Check.due("two days", 127 ^ 3, shifts(5, 0, 6, 0));
        Check.due("told twice", 1, shifts(6, 1, 6, 1, 0, 0));
        Check.due("neither", 0, shifts(6, 1, 6, 0));
        Check.due("two Saturdays", 0, shifts(5, 1, 6, 1));
        Check.due("none at all", 0, shifts(0, 0, 1, 0, 2, 0, 3, 0, 4, 0, 5, 0, 6, 0));
    }

    private static void whichDayToAsk() {
        Check.due("none told", 0, ask());
        Check.due("not on 0", 1, ask(0, 0));
        Check.due("not on 0 nor 1", 2, ask(0, 0, 1, 0));
        Check.due("two left", 2, ask(0, 0, 1, 0, 3, 0, 4, 0, 6, 0));
        Check.due("one left", -1, ask(0, 0, 1, 0, 2, 0, 3, 0, 4, 0, 6, 0));
        Check.due("one left", -1, ask(3, 1));
        Check.due("none left", -1, ask(3, 1, 3, 0));
        Check.due("not on 6", 0, ask(6, 0));
    }

    private static void whichWeeks() {
        Check.due("none told", 52, bored(false));
        Check.due("none told", 0, bored(true));
        Check.due("there in 0", 1, bored(false, 0, 1));
        Check.due("there in 0", 0, bored(true, 0, 1));
        Check.due("not in 0", 51, bored(false, 0, 0));
        Check.due("not in 0", 1, bored(true, 0, 0));
        Check.due("there in 51", 52, bored(false, 51, 1));
        Check.due("not in 51", 0, bored(false, 51, 0));
        Check.due("not in 51", -1, bored(true, 51, 0));
        Check.due("from 11 to 20", 10, bored(false, 10, 0, 20, 1));
        Check.due("from 11 to 20", 11, bored(true, 10, 0, 20, 1));
        Check.due("in 21", 1, bored(false, 20, 0, 21, 1));
        Check.due("in 21", 21, bored(true, 20, 0, 21, 1, 3, 0));
        Check.due("in the last one", 51, bored(true, 50, 0));
        Check.due("neither", 0, bored(false, 20, 1, 20, 0));
        Check.due("neither", -1, bored(true, 3, 1, 5, 0));
    }

    private static void whichWeekToLook() {
        Check.due("none told", 25, look());
        Check.due("from 11 to 20", 15, look(10, 0, 20, 1));
        Check.due("from 11 to 19: the least of two", 14, look(10, 0, 19, 1));
        Check.due("50 or 51", 50, look(49, 0));
        Check.due("0 or 1", 0, look(1, 1));
        Check.due("one left", -1, look(0, 1));
        Check.due("none left", -1, look(51, 0));
    }

    private static void refusedBy(String what, int... told) {
        SaturdayKeep x = new SaturdayKeep();
        Check.tape(x, told);
        Check.wrong("shifts " + what, x::shifts);
        Check.no("the tape is used up", x.end(1));
        Check.tape(x, told);
        Check.wrong("ask " + what, x::ask);
        Check.no("the tape is used up", x.end(1));
        weeksRefusedBy(what, told);
    }

    private static void weeksRefusedBy(String what, int... told) {
        SaturdayKeep x = new SaturdayKeep();
        Check.tape(x, told);
        Check.wrong("bored " + what, () -> x.bored(false));
        Check.no("the tape is used up", x.end(1));
        Check.tape(x, told);
        Check.wrong("bored " + what, () -> x.bored(true));
        Check.tape(x, told);
        Check.wrong("look " + what, x::look);
        Check.no("the tape is used up", x.end(1));
        Check.due("no text was read", -1, x.fault());
    }

    private static void refused() {
        refusedBy("of one byte", 0);
        refusedBy("of three bytes", 0, 0, 0);
        refusedBy("neither 0 nor 1", 0, 2);
        refusedBy("255", 0, 255);
        refusedBy("of 255", 255, 0);
        refusedBy("of 42 bytes", new int[42]);
        refusedBy("wrong at its end", 0, 0, 1, 0, 1, 9);
        weeksRefusedBy("of week 52", 52, 0);
        SaturdayKeep x = new SaturdayKeep();
        Check.tape(x, 7, 0);
        Check.wrong("shifts of day 7", x::shifts);
        Check.tape(x, 7, 0);
        Check.wrong("ask of day 7", x::ask);
        Check.tape(x, 51, 1);
        Check.due("week 51", 52, x.bored(false));
        Check.tape(x, new int[40]);
        Check.due("of 40 bytes", 127 ^ 64, x.shifts());
        Check.tape(x, new int[40]);
        Check.due("of 40 bytes", 51, x.bored(false));
    }
}
