/** Promises 21 to 26 and 47 to 49: what is ahead, and Saturdays to come. */
public final class AheadTest {
    public static void main(String[] args) {
        ahead();
        both();
        saturdays();
        first();
        goneAndStand();
        need();
        spread();
        Check.end("AheadTest");
    }

    private static void ahead() {
        // On Saturdays he would look, and by night holes would be bored: neither is ahead.
        SaturdayKeep x = Check.with("guest wish 10 at 0 doubt 60;guest wish 1 at 3 doubt 5;bore 100;masons 3;stones 20", "doubt 2 if eve or holes > 0;calm 1 if towers > 10");
        int doubt = 60;
        int towers = 0;
        int stones = 20;
        for (int n = 0; n <= 400; n++) {
            if (n < 30 || n == 400) {
                Check.due("ahead doubt " + n, doubt, x.ahead(0, n, 0));
                Check.due("ahead towers " + n, towers, x.ahead(1, n, 1));
                Check.due("ahead stones " + n, stones, x.ahead(0, n, 2));
            }
            doubt = Math.max(0, doubt + (n % 7 == 5 ? 2 : 0) - (towers > 10 ? 1 : 0));
            int built = Math.min(3, stones);
            towers += built;
            stones -= built;
        }
        Check.due("nothing stays", 0, x.count(3));
        Check.due("no draw", 1, x.seed(1));
        x.come(1, false);
        Check.due("of one away", 5, x.ahead(1, 400, 0));
        Check.outside("ahead(2, 0, 0)", () -> x.ahead(2, 0, 0));
        Check.outside("ahead(-1, 401, 3): the guest first", () -> x.ahead(-1, 401, 3));
        Check.wrong("ahead(0, 401, 3): the days next", () -> x.ahead(0, 401, 3));
        Check.wrong("ahead(0, -1, 0)", () -> x.ahead(0, -1, 0));
        Check.noSuch("ahead(0, 400, 3)", () -> x.ahead(0, 400, 3));
        Check.noSuch("ahead(0, 0, -1)", () -> x.ahead(0, 0, -1));
    }

    private static void both() {
        Check.due("never by other shifts", -1, new SaturdayKeep().both());
        for (int day = 0; day < 8; day++) {
            SaturdayKeep x = Check.with("shift 0 2;shift 1 2;day " + day);
            Check.due("both on day " + day, (11 - day) % 7, x.both());
        }
    }

    private static void saturdays() {
        SaturdayKeep x = new SaturdayKeep();
        int[] either = {0, 0, 0, 0, 1, 1, 1, 2, 2, 2, 2, 3};
        for (int n = 0; n < either.length; n++) {
            Check.due("saturdays(" + n + ")", either[n], x.saturdays(n));
            Check.due("agree(" + n + ")", n - either[n], x.agree(n));
        }
        Check.due("saturdays(400)", 114, x.saturdays(400));
        Check.due("agree(400)", 286, x.agree(400));
        Check.wrong("saturdays(401)", () -> x.saturdays(401));
        Check.wrong("saturdays(-1)", () -> x.saturdays(-1));
        Check.wrong("agree(401)", () -> x.agree(401));
        Check.wrong("agree(-1)", () -> x.agree(-1));
        SaturdayKeep same = Check.with("shift 0 5;shift 1 5;day 1");
        Check.due("by both is one day", 1, same.saturdays(1));
        Check.due("saturdays(8)", 2, same.saturdays(8));
        Check.due("by both they agree", 8, same.agree(8));
    }

    private static void first() {
        SaturdayKeep x = Check.with("guest wish 1 at 1;guest wish 1 at 1 doubt 40");
        Check.due("first(0, 1)", 1, x.first(0, 1));
        Check.due("first(0, 99)", 99, x.first(0, 99));
        Check.due("first(1, 40)", 0, x.first(1, 40));
        Check.due("first(1, 41)", 1, x.first(1, 41));
        x.come(1, false);
        Check.due("of one away, now", 0, x.first(1, 40));
        Check.due("of one away", -1, x.first(1, 41));
        Check.law(x, "doubt 1 if week > 56");
        Check.due("first by 400", 400, x.first(0, 1));
        Check.due("none by 400", -1, x.first(0, 2));
        Check.law(x, "calm 1;doubt 9 if doubted < 5");
        Check.due("first(0, 8)", 1, x.first(0, 8));
        Check.due("first(0, 12)", 6, x.first(0, 12));
        Check.due("never", -1, x.first(0, 13));
        Check.wrong("first(0, 0)", () -> x.first(0, 0));
        Check.wrong("first(0, 100)", () -> x.first(0, 100));
        Check.outside("first(2, 100)", () -> x.first(2, 100));
        Check.outside("first(-1, 5)", () -> x.first(-1, 5));
    }

    private static void goneAndStand() {
        SaturdayKeep x = Check.with("masons 3;stones 10");
        Check.due("gone", 4, x.gone());
        Check.due("stand(1)", 1, x.stand(1));
        Check.due("stand(3)", 1, x.stand(3));
        Check.due("stand(4)", 2, x.stand(4));
        Check.due("stand(10)", 4, x.stand(10));
        Check.due("stand(11)", -1, x.stand(11));
        x.days(4);
        Check.due("gone now", 0, x.gone());
        Check.due("they stand now", 0, x.stand(10));
        x.masons(0);
        x.buy(1);
        Check.due("no masons, never gone", -1, x.gone());
        Check.due("none stand", -1, x.stand(11));
        SaturdayKeep y = Check.with("stones 400");
        Check.due("gone by 400", 400, y.gone());
        Check.due("stand by 400", 400, y.stand(400));
        y.buy(1);
        Check.due("not gone by 400", -1, y.gone());
        Check.due("not by 400", -1, y.stand(401));
        Check.due("stand(9999)", -1, y.stand(9999));
        Check.wrong("stand(0)", () -> y.stand(0));
        Check.wrong("stand(10000)", () -> y.stand(10000));
        Check.due("nothing stays", 401, y.count(7));
    }

    private static void need() {
        SaturdayKeep x = Check.with("masons 5;stones 20");
        x.days(2);
        Check.due("need(20)", 0, x.need(20));
        Check.due("need(1)", 0, x.need(1));
        Check.due("need(21)", 1, x.need(21));
        Check.due("need(9999)", 9979, x.need(9999));
        Check.wrong("need(0)", () -> x.need(0));
        Check.wrong("need(10000)", () -> x.need(10000));
        Check.wrong("need(-1)", () -> x.need(-1));
    }

    private static void spread() {
        SaturdayKeep x = Check.with("guest wish 1 at 1 doubt 20;guest wish 1 at 2 doubt 90;guest wish 1 at 3 doubt 50");
        Check.due("spread(0)", 70, x.spread(0));
        Check.due("spread(9)", 70, x.spread(9));
        Check.due("spread(10)", 69, x.spread(10));
        Check.due("spread(400)", 0, x.spread(400));
        x.come(1, false);
        Check.due("of those here", 30, x.spread(0));
        Check.due("of those here", 30, x.spread(9));
        x.come(0, false);
        Check.due("of one", 0, x.spread(9));
        x.come(2, false);
        Check.due("without", 0, x.spread(9));
        Check.wrong("spread(401)", () -> x.spread(401));
        Check.wrong("spread(-1)", () -> x.spread(-1));
    }
}
