/** Promises 20, 51 to 54: days with doubts, looks, towers and borings; trials, spans, the log. */
public final class DaysTest {
    public static void main(String[] args) {
        doubts();
        looks();
        lookOfMany();
        towers();
        borings();
        lastDay();
        refused();
        trial();
        span();
        log();
        led();
        Check.end("DaysTest");
    }

    private static void doubts() {
        SaturdayKeep x = Check.with("guest wish 1 at 4 doubt 97;guest wish 1 at 4 doubt 3;guest wish 1 at 5 doubt 50");
        x.come(2, false);
        x.days(1);
        Check.due("one a day without a law", 98, x.guest(0, 2));
        Check.due("one a day without a law", 4, x.guest(1, 2));
        Check.due("none of one away", 50, x.guest(2, 2));
        x.days(3);
        Check.due("99 at most", 99, x.guest(0, 2));
        Check.law(x, "calm 30");
        x.days(1);
        Check.due("calmed", 69, x.guest(0, 2));
        Check.due("0 at least", 0, x.guest(1, 2));
        Check.law(x, "doubt 2 if guest < 1 or doubted < 3");
        x.days(2);
        Check.due("by the law", 73, x.guest(0, 2));
        Check.due("by the law as it is then", 4, x.guest(1, 2));
    }

    private static void looks() {
        SaturdayKeep x = Check.with("guest wish 10 at 0 doubt 60;day 5");
        Check.due("no Saturday", 0, x.days(1));
        Check.due("a Saturday", 1, x.days(1));
        Check.due("seen", 1, x.count(10));
        Check.due("doubt", 99, x.guest(0, 2));
        Check.due("by the other calendar none", 0, x.days(6));
        Check.due("the next one", 1, x.days(1));
        Check.due("seen", 2, x.count(10));
        x.come(0, false);
        Check.due("one away does not look", 0, x.days(60));
        SaturdayKeep calm = Check.with("guest wish 1 at 0 doubt 40;day 6");
        Check.due("no risk, no look", 0, calm.days(1));
        Check.due("but a draw for him", Check.draws(1, 2)[1] & 1, calm.seed(1) >>> 16 & 1);
        // Doubt turns ahead of the look: 49 becomes 50, and the wish is whole.
        SaturdayKeep brim = Check.with("guest wish 10 at 0 doubt 49;day 6");
        Check.due("in doubt by then", 1, brim.days(1));
        SaturdayKeep below = Check.with("guest wish 10 at 0 doubt 48;day 6");
        int first = Check.draws(1, 1)[0];
        Check.due("half the wish", first % 10 < 5 ? 1 : 0, below.days(1));
    }

    private static void lookOfMany() {
        for (int seed = 0; seed < 50; seed++) {
            SaturdayKeep x = Check.with("guest wish 6 at 3 doubt 70;guest wish 9 at 6;guest wish 8 at 2 doubt 9 key;"
                    + "guest wish 7 at 1 doubt 99;hole 1 3;bath 3;bore 50;day 6", "");
            x.seed(seed);
            int[] draws = Check.draws(seed, 5);
            int due = (draws[0] % 10 < 6 ? 1 : 0) + (draws[1] % 10 < 4 ? 4 : 0) + (draws[2] % 10 < 7 ? 8 : 0);
            Check.due("looks by seed " + seed, Integer.bitCount(due), x.days(1));
            Check.due("doubt of 0", (due & 1) != 0 ? 99 : 70, x.guest(0, 2));
            Check.due("doubt of 1, who does not watch", 0, x.guest(1, 2));
            Check.due("doubt of 2", (due & 4) != 0 ? 99 : 9, x.guest(2, 2));
            Check.due("doubt of 3", 99, x.guest(3, 2));
            boolean bored = draws[3] % 100 < 50;
            int room = draws[4] % 8;
            Check.due("holes by seed " + seed, bored ? 2 : 1, x.count(11));
            if (bored) {
                Check.due("bored by seed " + seed, 1, x.room(room, 0) >> (room + 1) % 8 & 1);
            }
        }
    }

    private static void towers() {
        SaturdayKeep x = Check.with("masons 4;stones 10");
        x.days(2);
        Check.due("towers", 8, x.count(8));
        Check.due("stones", 2, x.count(7));
        x.days(1);
        Check.due("what stones there are", 10, x.count(8));
        Check.due("none left", 0, x.count(7));
        x.days(5);
        Check.due("no more", 10, x.count(8));
        x.masons(9);
        for (int i = 0; i < 12; i++) {
            x.buy(999);
            x.buy(999);
            x.days(60);
            x.days(60);
        }
        Check.due("9999 at most", 9999, x.count(8));
    }

    private static void borings() {
        SaturdayKeep x = Check.with("bore 100");
        x.days(60);
        Check.due("all eight holes upward", 8, x.count(11));
        for (int room = 0; room < 8; room++) {
            Check.due("from " + room, 1 << (room + 1) % 8, x.room(room, 0));
        }
        SaturdayKeep none = Check.with("bore 0");
        none.days(60);
        Check.due("no hole", 0, none.count(11));
        Check.due("a draw each day", Check.draws(1, 61)[60], nextDraw(none));
    }

    private static int nextDraw(SaturdayKeep x) {
        return Check.draws(x.seed(1), 1)[0];
    }

    private static void lastDay() {
        SaturdayKeep x = Check.with("guest wish 0 at 0;day 999;masons 0", "");
        for (int i = 0; i < 150; i++) {
            x.days(60);
        }
        Check.due("the last day", 9999, x.count(3));
        Check.law(x, "doubt 7 if week > 999 + 428 and week < 999 + 430");
        Check.due("its week", 7, x.guest(0, 6));
        Check.due("next Saturday by the new one is today", 0, x.calendar(1, true));
        Check.due("looks go on", 0, x.days(60));
        Check.due("ahead, too", 99, x.ahead(0, 400, 0));
    }

    private static void refused() {
        SaturdayKeep x = new SaturdayKeep();
        Check.wrong("days(0)", () -> x.days(0));
        Check.wrong("days(61)", () -> x.days(61));
        Check.wrong("days(-1)", () -> x.days(-1));
        Check.due("no act", 0, x.count(15));
        Check.due("no day", 0, x.count(3));
        Check.due("none is seen", 0, x.days(60));
        Check.due("one act", 1, x.count(15));
        Check.due("sixty days", 60, x.count(3));
    }

    private static final String LIVELY = "guest wish 10 at 3 doubt 60;guest wish 8 at 2 doubt 20 key;guest wish 9 at 4 doubt 70;"
            + "hole 4 3;bath 3;bore 30;day 2";

    private static void trial() {
        for (int n = 0; n <= 60; n += 5) {
            SaturdayKeep x = Check.with(LIVELY);
            int seen = x.trial(n, false);
            int holes = x.trial(n, true);
            Check.due("nothing stays", 2, x.count(3));
            Check.due("nor is it an act", 0, x.count(15));
            Check.due("nor in the log", 0, x.count(14));
            if (n > 0) {
                Check.due("trial(" + n + ")", x.days(n), seen);
            } else {
                Check.due("trial(0)", 0, seen);
            }
            Check.due("holes of trial(" + n + ")", x.count(11), holes);
        }
        SaturdayKeep x = Check.with(LIVELY);
        Check.wrong("trial(-1)", () -> x.trial(-1, false));
        Check.wrong("trial(61)", () -> x.trial(61, true));
    }

    private static void span() {
        SaturdayKeep x = Check.with(LIVELY);
        x.seed(77);
        x.days(9);
        int least = 1000;
        int most = 0;
        x.image();
        for (int seed = 1; seed <= 6; seed++) {
            x.back();
            x.seed(seed);
            int seen = x.days(30);
            least = Math.min(least, seen);
            most = Math.max(most, seen);
        }
        x.back();
        Check.yes("they are parted", least < most);
        spanOfOneDay();
        Check.due("span, the fewest", least, x.span(30, false));
        Check.due("span, the most", most, x.span(30, true));
        Check.due("span of none", 0, x.span(0, true));
        Check.due("nothing stays", 11, x.count(3));
        Check.wrong("span(-1)", () -> x.span(-1, true));
        Check.wrong("span(61)", () -> x.span(61, false));
    }

    /** By single risks, so that each of the six seeds is once the one that matters. */
    private static void spanOfOneDay() {
        for (int wish = 0; wish <= 10; wish++) {
            SaturdayKeep x = Check.with("guest wish " + wish + " at 0 doubt 99;day 6");
            int looks = 0;
            for (int seed = 1; seed <= 6; seed++) {
                looks += Check.draws(seed, 1)[0] % 10 < wish ? 1 : 0;
            }
            Check.due("the fewest by wish " + wish, looks == 6 ? 1 : 0, x.span(1, false));
            Check.due("the most by wish " + wish, looks > 0 ? 1 : 0, x.span(1, true));
        }
        SaturdayKeep x = Check.with("guest wish 10 at 0 doubt 99;day 6");
        Check.due("sixty days", 9, x.span(60, false));
        Check.due("sixty days", 9, x.span(60, true));
    }

    private static void log() {
        // Both look each Saturday: day 6, 13, .. and the seventh hole of each row is told.
        SaturdayKeep x = Check.with("guest wish 10 at 3 doubt 99;guest wish 1 at 0;guest wish 10 at 5 doubt 99;hole 5 3;bath 3;day 6");
        Check.due("no row yet", -1, x.log(0, 0));
        x.days(1);
        int[][] due = {{6, 2, 5, 3}, {6, 0, 3, 3}};
        for (int ago = 0; ago < 2; ago++) {
            for (int what = 0; what < 4; what++) {
                Check.due("log(" + ago + ", " + what + ")", due[ago][what], x.log(ago, what));
            }
        }
        Check.due("log(2, 0)", -1, x.log(2, 0));
        Check.due("log(-1, 0)", -1, x.log(-1, 0));
        Check.due("log of the most", -1, x.log(Integer.MAX_VALUE, 0));
        Check.noSuch("log(0, 4)", () -> x.log(0, 4));
        Check.noSuch("log(9, -1)", () -> x.log(9, -1));
        x.go(2, 3);
        for (int i = 0; i < 29; i++) {
            x.days(7);
        }
        Check.due("sixty rows", 60, x.count(14));
        Check.due("the first row", 6, x.log(59, 0));
        Check.due("the room as it was", 5, x.log(58, 2));
        Check.due("the latest", 209, x.log(0, 0));
        Check.due("in his new room", 3, x.log(0, 2));
        x.days(7);
        Check.due("sixty rows", 60, x.count(14));
        Check.due("the first ones are gone", 13, x.log(59, 0));
        Check.due("the latest", 216, x.log(0, 0));
        Check.due("seen", 62, x.count(10));
        Check.due("beyond", -1, x.log(60, 0));
    }

    private static void led() {
        SaturdayKeep x = Check.with("guest wish 10 at 3 doubt 99;guest wish 1 at 0;guest wish 10 at 5 doubt 99;hole 5 3;bath 3;day 6");
        Check.due("none yet", 0, x.led(0, false));
        Check.due("none yet", -1, x.led(0, true));
        x.days(15);
        x.come(0, false);
        x.days(7);
        Check.due("rows of 0", 3, x.led(0, false));
        Check.due("the latest of 0", 20, x.led(0, true));
        Check.due("rows of 2", 4, x.led(2, false));
        Check.due("the latest of 2", 27, x.led(2, true));
        Check.due("rows of 1", 0, x.led(1, false));
        Check.due("the latest of 1", -1, x.led(1, true));
        Check.outside("led(3)", () -> x.led(3, false));
        Check.outside("led(-1)", () -> x.led(-1, true));
    }
}
