/** Promises 7 to 10 and 59: a guest, a room, the calendars, Saturdays, counts. */
public final class StateTest {
    public static void main(String[] args) {
        guest();
        risk();
        room();
        calendar();
        saturday();
        count();
        Check.end("StateTest");
    }

    private static void guest() {
        SaturdayKeep x = Check.with("guest wish 9 at 0 doubt 50 key;guest wish 5 at 3 doubt 49;guest wish 5 at 3;hole 0 4;hole 3 6");
        int[][] due = {{0, 9, 50, 1, 1, 9, 1, 1 | 2 | 128 | 16, 50}, {3, 5, 49, 0, 1, 2, 1, 8 | 64, 49},
            {3, 5, 0, 0, 1, 2, 1, 8 | 64, 0}};
        for (int g = 0; g < 3; g++) {
            for (int what = 0; what < 9; what++) {
                Check.due("guest(" + g + ", " + what + ")", due[g][what], x.guest(g, what));
            }
        }
        x.come(0, false);
        Check.due("away", 0, x.guest(0, 4));
        Check.due("share of one away", 0, x.guest(0, 8));
        Check.due("all the share", 100, x.guest(1, 8));
        Check.due("he spies all the same", 1 | 2 | 128 | 16, x.guest(0, 7));
        Check.due("and has his risk", 9, x.guest(0, 5));
        Check.due("and would turn", 1, x.guest(0, 6));
        x.come(1, false);
        Check.due("no doubt of those here", 0, x.guest(2, 8));
        Check.outside("guest(3, 0)", () -> x.guest(3, 0));
        Check.outside("guest(-1, 0)", () -> x.guest(-1, 0));
        Check.outside("guest(3, 9): the guest is told first", () -> x.guest(3, 9));
        Check.outside("guest of the most", () -> x.guest(Integer.MAX_VALUE, 0));
        Check.noSuch("guest(0, 9)", () -> x.guest(0, 9));
        Check.noSuch("guest(0, -1)", () -> x.guest(0, -1));
        SaturdayKeep y = Check.with("guest wish 0 at 7 key;guest wish 1 at 5 doubt 1;guest wish 1 at 1 doubt 2");
        Check.due("beside 7 are 6 and 0", 128 | 64 | 1, y.guest(0, 7));
        Check.due("a third, rounded down", 33, y.guest(1, 8));
        Check.due("two thirds, rounded down", 66, y.guest(2, 8));
    }

    private static void risk() {
        for (int wish = 0; wish <= 10; wish++) {
            SaturdayKeep x = Check.with("guest wish " + wish + " at 0 doubt 50;guest wish " + wish + " at 0 doubt 49");
            Check.due("risk of wish " + wish + " in doubt", wish, x.guest(0, 5));
            Check.due("risk of wish " + wish, wish / 2, x.guest(1, 5));
        }
    }

    private static void room() {
        SaturdayKeep x = Check.with("guest wish 1 at 0;guest wish 1 at 0;guest wish 1 at 7 key;guest wish 1 at 2;hole 2 7;hole 2 0;hole 7 2");
        Check.due("holes from 2", 129, x.room(2, 0));
        Check.due("holes from 0", 0, x.room(0, 0));
        Check.due("holes into 0", 4, x.room(0, 1));
        Check.due("holes into 2", 128, x.room(2, 1));
        Check.due("here in 0", 3, x.room(0, 2));
        Check.due("watchers of 0", 1 | 2 | 4 | 8, x.room(0, 3));
        Check.due("watchers of 7", 4 | 8, x.room(7, 3));
        Check.due("watchers of 2", 4 | 8, x.room(2, 3));
        Check.due("watchers of 6", 4, x.room(6, 3));
        x.come(1, false);
        Check.due("one away is not in it", 1, x.room(0, 2));
        Check.due("nor watches", 1 | 4 | 8, x.room(0, 3));
        Check.outside("room(-1, 0)", () -> x.room(-1, 0));
        Check.outside("room(8, 9)", () -> x.room(8, 9));
        Check.noSuch("room(7, 4)", () -> x.room(7, 4));
        Check.noSuch("room(7, -1)", () -> x.room(7, -1));
    }

    private static void calendar() {
        for (int shift = 0; shift < 7; shift++) {
            for (int day = 0; day < 15; day++) {
                SaturdayKeep x = Check.with("shift 0 " + shift + ";shift 1 " + (6 - shift) + ";day " + day);
                Check.due("shift", shift, x.calendar(0, false));
                Check.due("other shift", 6 - shift, x.calendar(1, false));
                int n = x.calendar(0, true);
                Check.yes("within a week", n >= 0 && n < 7);
                Check.yes("then it is Saturday", (day + n + shift) % 7 == 6);
                Check.yes("told alike", x.saturday(0, day + n));
            }
        }
        SaturdayKeep x = new SaturdayKeep();
        Check.outside("calendar(-1)", () -> x.calendar(-1, false));
        Check.outside("calendar(2)", () -> x.calendar(2, true));
    }

    private static void saturday() {
        SaturdayKeep x = new SaturdayKeep();
        Check.yes("day 6, old", x.saturday(0, 6));
        Check.no("day 5, old", x.saturday(0, 5));
        Check.no("day 0, old", x.saturday(0, 0));
        Check.yes("day 3, new", x.saturday(1, 3));
        Check.yes("day 9995, old", x.saturday(0, 9995));
        Check.no("day 9999, old", x.saturday(0, 9999));
        Check.yes("day 9999, new", x.saturday(1, 9999));
        Check.wrong("day -1", () -> x.saturday(0, -1));
        Check.wrong("day 10000", () -> x.saturday(1, 10000));
        Check.outside("calendar 2", () -> x.saturday(2, 6));
        Check.outside("calendar -1 is told first", () -> x.saturday(-1, -1));
    }

    private static void count() {
        SaturdayKeep x = Check.with("guest wish 10 at 3 doubt 60;guest wish 2 at 3 doubt 7;guest wish 1 at 1 doubt 20;hole 1 2;hole 2 1;"
                + "bath 3;keep 1;masons 3;stones 50;bore 0;day 3", "calm 0;doubt 0");
        x.come(1, false);
        x.days(2);
        int[] due = {3, 1, 2, 5, 3, 1, 3, 44, 6, 0, 1, 2, 5, 119, 1, 2};
        for (int what = 0; what < due.length; what++) {
            Check.due("count(" + what + ")", due[what], x.count(what));
        }
        Check.due("count(16)", -1, x.count(16));
        Check.due("count(-1)", -1, x.count(-1));
        Check.due("count of the least", -1, x.count(Integer.MIN_VALUE));
        Check.house(x, "bore 100");
        Check.due("bore", 100, x.count(9));
        Check.due("texts", 2, x.count(1));
    }
}
