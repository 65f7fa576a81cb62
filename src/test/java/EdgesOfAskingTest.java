/** The document's edges, sentence by sentence: Saturdays to come, shifts and weeks that fit what is told. */
public final class EdgesOfAskingTest {
    private static final int LEAST = Integer.MIN_VALUE;
    private static final int MOST = Integer.MAX_VALUE;

    public static void main(String[] args) {
        both();
        saturdays();
        agree();
        shiftsThatFit();
        dayToAsk();
        noneWithFewerThanTwo();
        weeksThatFit();
        weekToLook();
        fortyBytes();
        firstOfEachPair();
        secondOfEachPair();
        tapeUsedUp();
        Check.end("EdgesOfAskingTest");
    }

    private static void both() {
        Check.says("BOTH: the first N (0 to 400) DAYS from now by which it is SATURDAY by both CALENDARS; none.");
        for (int old = 0; old < 7; old++) {
            for (int other = 0; other < 7; other++) {
                SaturdayKeep x = Check.with("shift 0 " + old + ";shift 1 " + other);
                Check.due("both of " + old + " and " + other, old == other ? 6 - old : -1, x.both());
            }
        }
        Check.due("today", 0, Check.with("shift 0 3;shift 1 3;day 3").both());
        Check.due("just behind it", 6, Check.with("shift 0 3;shift 1 3;day 4").both());
        Check.due("tomorrow", 1, Check.with("shift 0 3;shift 1 3;day 2").both());
        SaturdayKeep x = Check.with("shift 0 3;shift 1 3;day 3");
        x.keep(1);
        Check.due("whichever is kept", 0, x.both());
    }

    private static void saturdays() {
        Check.says("SATURDAYS of N DAYS (0 to 400) from today on: on how many of them it is so by either CALENDAR.");
        SaturdayKeep x = Check.with("day 6");
        Check.due("of none", 0, x.saturdays(0));
        Check.due("today", 1, x.saturdays(1));
        Check.due("up to the new one's", 1, x.saturdays(4));
        Check.due("with it", 2, x.saturdays(5));
        Check.due("of 399", 114, x.saturdays(399));
        Check.due("of 400", 115, x.saturdays(400));
        Check.due("not yesterday", 0, Check.with("day 7").saturdays(0));
        Check.due("nor to-day's morrow", 0, Check.with("day 5").saturdays(1));
        Check.due("by the new one alone", 1, Check.with("day 3").saturdays(1));
        SaturdayKeep same = Check.with("shift 1 0;day 6");
        Check.due("by both is one", 1, same.saturdays(1));
        Check.due("of 400", 58, same.saturdays(400));
        for (int n : new int[] {LEAST, -1, 401, MOST}) {
            Check.wrong("saturdays(" + n + ")", () -> x.saturdays(n));
        }
    }

    private static void agree() {
        Check.says("AGREE of N DAYS (0 to 400) from today on: on how many of them it is SATURDAY by both CALENDARS, or by none.");
        SaturdayKeep x = Check.with("day 6");
        Check.due("of none", 0, x.agree(0));
        Check.due("today by one", 0, x.agree(1));
        Check.due("then by none", 1, x.agree(2));
        Check.due("not yesterday", 0, Check.with("day 8").agree(0));
        Check.due("up to the new one's", 3, x.agree(4));
        Check.due("with it", 3, x.agree(5));
        Check.due("of 400", 285, x.agree(400));
        SaturdayKeep same = Check.with("shift 1 0;day 6");
        Check.due("by both", 1, same.agree(1));
        Check.due("all of 400", 400, same.agree(400));
        for (int n : new int[] {LEAST, -1, 401, MOST}) {
            Check.wrong("agree(" + n + ")", () -> x.agree(n));
        }
    }

    private static int shifts(int... told) {
        SaturdayKeep x = new SaturdayKeep();
        Check.tape(x, told);
        return x.shifts();
    }

    private static int ask(int... told) {
        SaturdayKeep x = new SaturdayKeep();
        Check.tape(x, told);
        return x.ask();
    }

    private static int bored(int... told) {
        SaturdayKeep x = new SaturdayKeep();
        Check.tape(x, told);
        return x.bored(false);
    }

    private static int least(int... told) {
        SaturdayKeep x = new SaturdayKeep();
        Check.tape(x, told);
        return x.bored(true);
    }

    private static int look(int... told) {
        SaturdayKeep x = new SaturdayKeep();
        Check.tape(x, told);
        return x.look();
    }

    private static void shiftsThatFit() {
        Check.says("by some unknown CALENDAR: SHIFTS 0 to 6 that fit, as bits.");
        Check.due("none told: all seven", 127, shifts());
        Check.due("day 0 is one: shift 6", 64, shifts(0, 1));
        Check.due("day 6 is one: shift 0", 1, shifts(6, 1));
        Check.due("day 0 is none", 63, shifts(0, 0));
        Check.due("day 6 is none", 126, shifts(6, 0));
        Check.due("two days are it", 0, shifts(0, 1, 6, 1));
        Check.due("one day is, and is not", 0, shifts(3, 1, 3, 0));
        Check.due("no day is", 0, shifts(0, 0, 1, 0, 2, 0, 3, 0, 4, 0, 5, 0, 6, 0));
        Check.due("all but one are none", 8, shifts(0, 0, 1, 0, 2, 0, 4, 0, 5, 0, 6, 0));
        Check.due("the same told again", 8, shifts(3, 1, 3, 1, 2, 0));
    }

    private static void dayToAsk() {
        Check.says("ASK: the DAY of a week (0 to 6) by which these are parted (SATURDAY or not) so that the greater part is the least"
                + " (of several the least; none with fewer than two).");
        Check.due("all seven: the least day", 0, ask());
        for (int day = 0; day < 7; day++) {
            Check.due("not " + day, day == 0 ? 1 : 0, ask(day, 0));
        }
        Check.due("5 or 6 are left", 5, ask(0, 0, 1, 0, 2, 0, 3, 0, 4, 0));
        Check.due("0 or 6 are left", 0, ask(5, 0, 1, 0, 2, 0, 3, 0, 4, 0));
        Check.due("4 or 6 are left", 4, ask(0, 0, 1, 0, 2, 0, 3, 0, 5, 0));
    }

    private static void noneWithFewerThanTwo() {
        Check.says("(of several the least; none with fewer than two).");
        Check.due("one shift", -1, ask(6, 1));
        Check.due("one shift", -1, ask(0, 0, 1, 0, 2, 0, 3, 0, 4, 0, 5, 0));
        Check.due("no shift", -1, ask(6, 1, 6, 0));
        Check.due("one week", -1, look(0, 1));
        Check.due("one week: the last", -1, look(50, 0));
        Check.due("one week amid", -1, look(20, 0, 21, 1));
        Check.due("no week", -1, look(51, 0));
        Check.due("no week", -1, look(21, 0, 20, 1));
        Check.due("two weeks", 0, look(1, 1));
        Check.due("two weeks: the last", 50, look(49, 0));
    }

    private static void weeksThatFit() {
        Check.says("it was bored in one WEEK, from which on it was there (that one, too): WEEKS 0 to 51 that fit: how many; the least; none.");
        Check.due("none told: all", 52, bored());
        Check.due("none told: the least", 0, least());
        for (int week : new int[] {0, 1, 25, 50, 51}) {
            Check.due("there in " + week, week + 1, bored(week, 1));
            Check.due("there in " + week, 0, least(week, 1));
            Check.due("not yet in " + week, 51 - week, bored(week, 0));
            Check.due("not yet in " + week, week == 51 ? -1 : week + 1, least(week, 0));
        }
        Check.due("just that one", 1, bored(30, 0, 31, 1));
        Check.due("just that one", 31, least(30, 0, 31, 1));
        Check.due("there, and not yet", 0, bored(30, 1, 30, 0));
        Check.due("there, and not yet", -1, least(30, 1, 30, 0));
        Check.due("there, and later not yet", 0, bored(0, 1, 51, 0));
        Check.due("the narrowest of what is told", 3, bored(9, 0, 3, 0, 12, 1, 40, 1));
        Check.due("the narrowest of what is told", 10, least(3, 0, 9, 0, 40, 1, 12, 1));
    }

    private static void weekToLook() {
        Check.says("LOOK: the WEEK of which to ask, so that those that fit are parted (there then, or not) as evenly as can be:"
                + " the greater part the least (of several the least; none with fewer than two).");
        Check.due("52: 26 and 26", 25, look());
        Check.due("51 from 0 on: 26 and 25, the least of two", 24, look(50, 1));
        Check.due("51 from 1 on", 25, look(0, 0));
        Check.due("three from 0 on", 0, look(2, 1));
        Check.due("three up to 51", 49, look(48, 0));
        Check.due("four amid", 21, look(19, 0, 23, 1));
    }

    private static int[] pairs(int n, int first, int second) {
        int[] told = new int[2 * n];
        for (int i = 0; i < n; i++) {
            told[2 * i] = first;
            told[2 * i + 1] = second;
        }
        return told;
    }

    private static void eachRefuses(String what, int... told) {
        Check.wrong("shifts of " + what, () -> shifts(told));
        Check.wrong("ask of " + what, () -> ask(told));
        weeksRefuse(what, told);
    }

    private static void weeksRefuse(String what, int... told) {
        Check.wrong("bored, how many, of " + what, () -> bored(told));
        Check.wrong("bored, the least, of " + what, () -> least(told));
        Check.wrong("look of " + what, () -> look(told));
    }

    private static void fortyBytes() {
        Check.says("SHIFTS (of each two bytes: DAY of a week 0 to 6, 1 or 0; 40 bytes at most), as bits."
                + " IllegalArgumentException: the TAPE is not that (none may be told).");
        Check.says("BORED (of each two bytes: WEEK 0 to 51, 1 or 0; 40 bytes at most)");
        Check.due("40 bytes", 63, shifts(pairs(20, 0, 0)));
        Check.due("40 bytes", 1, ask(pairs(20, 0, 0)));
        Check.due("40 bytes", 51, bored(pairs(20, 0, 0)));
        Check.due("40 bytes", 1, least(pairs(20, 0, 0)));
        Check.due("40 bytes", 25, look(pairs(20, 0, 0)));
        int[] last = pairs(20, 0, 0);
        last[38] = 1;
        Check.due("the last pair counts", 31, shifts(last));
        Check.due("the last pair counts", 50, bored(last));
        eachRefuses("42 bytes", pairs(21, 0, 0));
        eachRefuses("41 bytes", new int[41]);
        eachRefuses("39 bytes", new int[39]);
        eachRefuses("one byte", 0);
        eachRefuses("three bytes", 0, 0, 1);
        eachRefuses("400 bytes", new int[400]);
    }

    private static void firstOfEachPair() {
        Check.says("DAY of a week 0 to 6, 1 or 0");
        Check.due("day 6", 1, shifts(6, 1));
        Check.due("day 6", 0, ask(6, 0));
        for (int day : new int[] {7, 8, 51, 127, 128, 255}) {
            Check.wrong("shifts of day " + day, () -> shifts(day, 0));
            Check.wrong("ask of day " + day, () -> ask(day, 0));
            Check.wrong("shifts of day " + day + " behind others", () -> shifts(1, 0, 2, 0, day, 0));
        }
        Check.due("week 51", 52, bored(51, 1));
        for (int week : new int[] {52, 53, 127, 128, 255}) {
            weeksRefuse("week " + week, week, 1);
            weeksRefuse("week " + week + " behind others", 1, 0, 2, 0, week, 1);
        }
        // What is a week and no day is told to the one and not to the other.
        Check.due("week 7", 8, bored(7, 1));
        Check.wrong("day 7", () -> shifts(7, 1));
    }

    private static void secondOfEachPair() {
        Check.says("1 or 0; 40 bytes at most");
        for (int n : new int[] {2, 3, 48, 49, 127, 128, 129, 255}) {
            eachRefuses("0 and " + n, 0, n);
            eachRefuses("a last " + n, 0, 0, 1, 0, 2, n);
        }
    }

    private static void tapeUsedUp() {
        Check.says("Uses the TAPE up: SHIFTS");
        Check.says("Uses the TAPE up: ASK (the TAPE likewise); NONE.");
        Check.says("Uses the TAPE up: BORED");
        Check.says("Uses the TAPE up: LOOK (the TAPE likewise); NONE.");
        SaturdayKeep x = new SaturdayKeep();
        Check.tape(x, 6, 1);
        Check.due("told", 1, x.shifts());
        Check.due("none told any more", 127, x.shifts());
        Check.tape(x, 6, 1);
        Check.due("told", -1, x.ask());
        Check.due("none told any more", 0, x.ask());
        Check.tape(x, 9, 0);
        Check.due("told", 42, x.bored(false));
        Check.due("none told any more", 52, x.bored(false));
        Check.tape(x, 9, 0);
        Check.due("told", 10, x.bored(true));
        Check.due("none told any more", 0, x.bored(true));
        Check.tape(x, 9, 0);
        Check.due("told", 30, x.look());
        Check.due("none told any more", 25, x.look());
        Check.tape(x, 6, 2);
        Check.wrong("refused", x::shifts);
        Check.due("used up all the same", 127, x.shifts());
        Check.tape(x, 6, 2);
        Check.wrong("refused", x::ask);
        Check.due("used up all the same", 0, x.ask());
        Check.tape(x, 6, 2);
        Check.wrong("refused", () -> x.bored(true));
        Check.due("used up all the same", 52, x.bored(false));
        Check.tape(x, 6, 2);
        Check.wrong("refused", x::look);
        Check.due("used up all the same", 25, x.look());
        Check.no("no byte", x.end(1));
    }
}
