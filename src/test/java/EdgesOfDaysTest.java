/** The document's edges, sentence by sentence: days, draws, what is ahead, trials, spans and the log. */
public final class EdgesOfDaysTest {
    private static final int LEAST = Integer.MIN_VALUE;
    private static final int MOST = Integer.MAX_VALUE;
    private static final String WATCHER = "guest wish 10 at 0 doubt 99;day 6";

    public static void main(String[] args) {
        daysOfACall();
        doubtOfADay();
        doubtAheadOfTheLook();
        bySaturdayKept();
        lookBelowRisk();
        drawForEachWatcher();
        towersAndStones();
        towersAtMost();
        boreBelow();
        boredRound();
        lastDay();
        drawGoesRound();
        aheadOfDays();
        aheadWithoutLooks();
        first();
        gone();
        stand();
        need();
        spread();
        trial();
        span();
        sixtyRows();
        led();
        logAgo();
        seed();
        Check.end("EdgesOfDaysTest");
    }

    private static void daysOfACall() {
        Check.says("So many DAYS more (1 to 60): how often it was SEEN. IllegalArgumentException: they are none.");
        SaturdayKeep x = Check.with(WATCHER);
        Check.due("one day", 1, x.days(1));
        Check.due("day", 7, x.count(3));
        Check.due("sixty days: 13, 20, .. 62", 8, x.days(60));
        Check.due("day", 67, x.count(3));
        Check.due("SEEN in all", 9, x.count(10));
        for (int n : new int[] {LEAST, -1, 0, 61, MOST}) {
            Check.wrong("days(" + n + ")", () -> x.days(n));
        }
        Check.due("day", 67, x.count(3));
        Check.due("acts", 2, x.count(15));
    }

    private static void doubtOfADay() {
        Check.says("(a) DOUBT of each GUEST HERE, by numbers, TURNS, by all as it is then (0 to 99).");
        int[][] due = {{0, 1, 1}, {97, 1, 98}, {98, 1, 99}, {99, 1, 99}, {70, 30, 99}, {69, 30, 99}, {68, 30, 98}};
        for (int[] d : due) {
            SaturdayKeep x = Check.with("guest wish 0 at 3 doubt " + d[0], "doubt " + d[1]);
            x.days(1);
            Check.due(d[0] + " and " + d[1], d[2], x.guest(0, 2));
            SaturdayKeep y = Check.with("guest wish 0 at 3 doubt " + (99 - d[0]), "calm " + d[1]);
            y.days(1);
            Check.due(99 - d[0] + " less " + d[1], 99 - d[2], y.guest(0, 2));
        }
        SaturdayKeep all = Check.with(Check.times(8, "guest wish 0 at 3 doubt 40"));
        all.days(1);
        for (int g = 0; g < 8; g++) {
            Check.due("each of eight", 41, all.guest(g, 2));
        }
        SaturdayKeep x = Check.with("guest wish 0 at 3;guest wish 0 at 3 doubt 7");
        x.come(1, false);
        x.days(2);
        Check.due("HERE", 2, x.guest(0, 2));
        Check.due("away", 7, x.guest(1, 2));
    }

    private static void doubtAheadOfTheLook() {
        Check.says("RISK of a GUEST: WISH, if DOUBT is 50 at least");
        SaturdayKeep x = Check.with("guest wish 10 at 0 doubt 48;day 6");
        int seed = seedOf(5, 10);
        x.seed(seed);
        Check.due("49 by then: half the wish is not enough", 0, x.days(1));
        SaturdayKeep y = Check.with("guest wish 10 at 0 doubt 49;day 6");
        y.seed(seed);
        Check.due("50 by then: the whole wish", 1, y.days(1));
        Check.due("DOUBT 99 behind the look", 99, y.guest(0, 2));
    }

    /** The least seed by which the first draw, modulo so much, is this. */
    private static int seedOf(int draw, int modulo) {
        int seed = 0;
        while (Check.draws(seed, 1)[0] % modulo != draw) {
            seed++;
        }
        return seed;
    }

    private static void bySaturdayKept() {
        Check.says("(b) If it is SATURDAY by the CALENDAR that is KEPT");
        for (int day = 0; day < 14; day++) {
            SaturdayKeep x = Check.with("guest wish 10 at 0 doubt 99;day " + day);
            Check.due("by the old one on " + day, day % 7 == 6 ? 1 : 0, x.days(1));
            SaturdayKeep y = Check.with("guest wish 10 at 0 doubt 99;keep 1;day " + day);
            Check.due("by the new one on " + day, day % 7 == 3 ? 1 : 0, y.days(1));
        }
    }

    private static void lookBelowRisk() {
        Check.says("each WATCHER of THE BATH, by numbers: DRAW modulo 10 below his RISK: he looks: SEEN is 1 more, DOUBT 99.");
        for (int risk = 0; risk <= 10; risk++) {
            for (int draw = 0; draw <= 9; draw++) {
                SaturdayKeep x = Check.with("guest wish " + risk + " at 0 doubt 60;day 6", "");
                x.seed(seedOf(draw, 10));
                int looks = draw < risk ? 1 : 0;
                Check.due("draw " + draw + " by risk " + risk, looks, x.days(1));
                Check.due("SEEN", looks, x.count(10));
                Check.due("rows", looks, x.count(14));
                Check.due("DOUBT", looks == 1 ? 99 : 60, x.guest(0, 2));
            }
        }
    }

    private static void drawForEachWatcher() {
        Check.says("(A DRAW for each WATCHER.)");
        Check.says("(The first DRAW is made always.)");
        for (int watchers = 0; watchers <= 8; watchers++) {
            SaturdayKeep x = Check.with(Check.times(8, "guest wish 0 at 4") + ";day 6");
            for (int g = 0; g < watchers; g++) {
                x.go(g, 0);
            }
            x.seed(17);
            x.days(1);
            Check.due("draws by " + watchers + " without RISK", Check.seedAfter(17, watchers + 1), x.seed(17));
            x.days(1);
            Check.due("one draw on a Sunday", Check.seedAfter(17, 1), x.seed(17));
        }
        SaturdayKeep x = Check.with(Check.times(8, "guest wish 10 at 0 doubt 99") + ";day 6");
        x.seed(17);
        x.come(3, false);
        x.days(1);
        Check.due("none for one away", Check.seedAfter(17, 8), x.seed(17));
        SaturdayKeep y = Check.with("bore 100;day 6");
        y.seed(17);
        y.days(1);
        Check.due("a second one, if there is a boring", Check.seedAfter(17, 2), y.seed(17));
    }

    private static void building(int masons, int stones, int towers, int left) {
        SaturdayKeep x = Check.with("masons " + masons + ";stones " + stones);
        x.days(1);
        Check.due("towers by " + masons + " of " + stones, towers, x.count(8));
        Check.due("stones by " + masons + " of " + stones, left, x.count(7));
        SaturdayKeep y = Check.with("guest wish 1 at 1;masons " + masons + ";stones " + stones);
        Check.due("towers ahead", towers, y.ahead(0, 1, 1));
        Check.due("stones ahead", left, y.ahead(0, 1, 2));
    }

    private static void towersAndStones() {
        Check.says("(c) As many TOWERS more (9999 at most) as there are MASONS, or STONES, if these are fewer; STONES are as many less.");
        building(0, 0, 0, 0);
        building(0, 9, 0, 9);
        building(9, 0, 0, 0);
        building(9, 1, 1, 0);
        building(9, 8, 8, 0);
        building(9, 9, 9, 0);
        building(9, 10, 9, 1);
        building(1, 999, 1, 998);
    }

    private static void towersAtMost() {
        Check.says("As many TOWERS more (9999 at most)");
        SaturdayKeep x = Check.with("guest wish 1 at 1;masons 9;stones 999");
        for (int n = 1; n <= 9; n++) {
            x.buy(999);
        }
        Check.due("stones", 9999, x.buy(9));
        for (int n = 1; n <= 18; n++) {
            x.days(60);
        }
        x.days(30);
        Check.due("nearly", 9990, x.count(8));
        x.masons(8);
        x.days(1);
        Check.due("one is lacking", 9998, x.count(8));
        Check.due("stand(9999)", 1, x.stand(9999));
        x.buy(19);
        x.masons(9);
        Check.due("ahead it rests", 9999, x.ahead(0, 1, 1));
        x.days(1);
        Check.due("9999", 9999, x.count(8));
        Check.due("they stand", 0, x.stand(9999));
        Check.due("none is needed", 0, x.need(9999));
        x.days(1);
        Check.due("9999 at most", 9999, x.count(8));
        Check.due("the masons use up stones all the same", 2, x.count(7));
        Check.due("ahead, too", 9999, x.ahead(0, 400, 1));
    }

    private static void boreBelow() {
        Check.says("(d) If DRAW modulo 100 is below BORE");
        Check.says("BORE 0 to 100 (0 at first).");
        for (int bore = 0; bore <= 100; bore += bore == 1 || bore == 98 || bore == 99 || bore == 0 ? 1 : 97) {
            for (int draw : new int[] {0, 1, bore - 1, bore, bore + 1, 98, 99}) {
                if (draw >= 0 && draw <= 99) {
                    SaturdayKeep x = Check.with("bore " + bore);
                    x.seed(seedOf(draw, 100));
                    x.days(1);
                    Check.due("draw " + draw + " by bore " + bore, draw < bore ? 1 : 0, x.count(11));
                    Check.due("no day's look", 0, x.count(10));
                }
            }
        }
        SaturdayKeep x = new SaturdayKeep();
        x.seed(seedOf(0, 100));
        x.days(1);
        Check.due("none at first", 0, x.count(11));
    }

    private static void boredRound() {
        Check.says("from the ROOM DRAW modulo 8 a HOLE into the ROOM next above it (7: 0).");
        for (int room = 0; room < 8; room++) {
            int seed = 0;
            while (Check.draws(seed, 2)[1] % 8 != room) {
                seed++;
            }
            SaturdayKeep x = Check.with("bore 100");
            x.seed(seed);
            x.days(1);
            Check.due("from " + room, room == 7 ? 1 : 2 << room, x.room(room, 0));
            Check.due("alone", 1, x.count(11));
            x.seed(seed);
            x.days(1);
            Check.due("one that is there stays", 1, x.count(11));
        }
    }

    /** A house whose day is the last but so many. */
    private static SaturdayKeep late(String house, int before) {
        SaturdayKeep x = Check.with(house + ";day 999", "");
        for (int n = 1; n <= 149; n++) {
            x.days(60);
        }
        x.days(60 - before);
        return x;
    }

    private static void lastDay() {
        Check.says("(e) DAY is 1 more (9999 at most).");
        SaturdayKeep x = late("guest wish 0 at 3;masons 0", 2);
        Check.due("the last but two", 9997, x.count(3));
        x.days(1);
        Check.due("the last but one", 9998, x.count(3));
        x.days(1);
        Check.due("the last", 9999, x.count(3));
        x.days(1);
        Check.due("9999 at most", 9999, x.count(3));
        x.days(60);
        Check.due("9999 at most", 9999, x.count(3));
        Check.law(x, "doubt 5 if week < 999 + 430 and week > 999 + 428");
        Check.due("its week is 1428", 5, x.guest(0, 6));
        Check.due("today by shift 3", 0, x.calendar(1, true));
        Check.due("in three days by shift 0", 3, x.calendar(0, true));
        SaturdayKeep y = late("guest wish 10 at 0 doubt 99;keep 1;masons 0", 1);
        Check.due("not yet Saturday by the new one", 0, y.trial(1, false));
        Check.due("it stays Saturday by the new one", 59, y.trial(60, false));
        Check.due("each look is of that day", 9999, y.days(2) == 1 ? y.log(0, 0) : -2);
        SaturdayKeep z = late("guest wish 0 at 3;masons 0", 1);
        Check.law(z, "doubt 1 if week > 999 + 428");
        Check.due("ahead goes on beyond it", 99, z.ahead(0, 400, 0));
        Check.due("and so does first", 99, z.first(0, 99));
        aheadOfTheLastDay();
    }

    private static void aheadOfTheLastDay() {
        SaturdayKeep x = late("guest wish 0 at 3;shift 0 2;shift 1 1;masons 0", 0);
        Check.law(x, "doubt 1 if eve");
        Check.due("the last day", 9999, x.count(3));
        Check.due("it stays the eve by shift 2", 50, x.ahead(0, 50, 0));
        x.keep(1);
        Check.due("and none by shift 1", 0, x.ahead(0, 50, 0));
        SaturdayKeep y = late("guest wish 0 at 3;shift 0 3;shift 1 1;masons 0", 1);
        Check.law(y, "doubt 1 if eve");
        Check.due("the last but one is the eve by shift 3", 1, y.ahead(0, 1, 0));
        Check.due("and is gone then", 1, y.ahead(0, 50, 0));
        y.days(1);
        Check.due("not so on the last one", 1, y.ahead(0, 50, 0));
    }

    private static void drawGoesRound() {
        Check.says("DRAW: SEED is 1103515245 times SEED and 12345, as an int that goes round; bits 16 to 30 (SEED 1 at first).");
        int[][] due = {{0, 12345}, {1, 1103527590}, {-1, -1103502900}, {LEAST, -2147471303}, {MOST, 1043980748}};
        for (int[] d : due) {
            SaturdayKeep x = new SaturdayKeep();
            x.seed(d[0]);
            x.days(1);
            Check.due("behind " + d[0], d[1], x.seed(0));
        }
        // A SEED below 0 behind the draw: its highest bit is none of 16 to 30.
        int seed = 0;
        while (Check.seedAfter(seed, 1) >= 0 || Check.draws(seed, 1)[0] % 10 != 3) {
            seed++;
        }
        for (int wish = 3; wish <= 4; wish++) {
            SaturdayKeep x = Check.with("guest wish " + wish + " at 0 doubt 60;day 6", "");
            x.seed(seed);
            Check.due("draw 3 by risk " + wish, wish - 3, x.days(1));
        }
        // Bits 15 and 31 alone change nothing; bits 16 and 30 do.
        int at = Check.draws(seed, 1)[0];
        int s = Check.seedAfter(seed, 1);
        Check.due("bits 16 to 30", at, s >>> 16 & 0x7fff);
        Check.due("SEED at first", 1, new SaturdayKeep().seed(0));
    }

    private static void aheadOfDays() {
        Check.says("AHEAD by N DAYS (0 to 400): as so many DAYS without (b) and (d).");
        Check.says("AHEAD what 0 DOUBT of a GUEST, 1 TOWERS, 2 STONES. IllegalArgumentException: N is none; NoSuchElementException: another what.");
        SaturdayKeep x = Check.with("guest wish 1 at 3 doubt 5;guest wish 1 at 4 doubt 6;masons 3;stones 999",
                "doubt 3 if eve;calm 1 if towers > 40 and not eve;doubt 1 if week > 5 and guest > 0;doubt 1 if doubted < 3");
        SaturdayKeep y = Check.with("guest wish 1 at 3 doubt 5;guest wish 1 at 4 doubt 6;masons 3;stones 999",
                "doubt 3 if eve;calm 1 if towers > 40 and not eve;doubt 1 if week > 5 and guest > 0;doubt 1 if doubted < 3");
        for (int n = 0; n <= 400; n += 50) {
            Check.due("doubt of 0 by " + n, y.guest(0, 2), x.ahead(0, n, 0));
            Check.due("doubt of 1 by " + n, y.guest(1, 2), x.ahead(1, n, 0));
            Check.due("towers by " + n, y.count(8), x.ahead(0, n, 1));
            Check.due("stones by " + n, y.count(7), x.ahead(1, n, 2));
            y.days(50);
        }
        for (int n : new int[] {LEAST, -1, 401, MOST}) {
            Check.wrong("ahead by " + n, () -> x.ahead(0, n, 0));
            Check.wrong("n is told ahead of what", () -> x.ahead(1, n, 3));
            Check.outside("the guest ahead of n", () -> x.ahead(2, n, 3));
        }
        for (int what : new int[] {LEAST, -1, 3, MOST}) {
            Check.noSuch("what " + what, () -> x.ahead(0, 0, what));
            Check.noSuch("what " + what, () -> x.ahead(1, 400, what));
            Check.outside("the guest ahead of what", () -> x.ahead(-1, 400, what));
        }
    }

    private static void aheadWithoutLooks() {
        Check.says("as so many DAYS without (b) and (d)");
        SaturdayKeep x = Check.with("guest wish 10 at 0 doubt 60;bore 100;day 6", "doubt 1 if holes > 0");
        Check.due("no look", 60, x.ahead(0, 1, 0));
        Check.due("no boring", 60, x.ahead(0, 400, 0));
        Check.due("no draw", 1, x.seed(1));
        SaturdayKeep away = Check.with("guest wish 10 at 0 doubt 60");
        away.come(0, false);
        Check.due("one away does not turn", 60, away.ahead(0, 400, 0));
        Check.due("nor is he at first", 60, away.ahead(0, 0, 0));
    }

    private static void first() {
        Check.says("FIRST of a GUEST: the first N (0 to 400) AHEAD by which his DOUBT is so much (1 to 99) at least; none.");
        Check.says("FIRST; NONE (also of one who is away, if it is not so now). IllegalArgumentException: so much is none.");
        SaturdayKeep x = Check.with("guest wish 1 at 1;guest wish 1 at 1 doubt 99;guest wish 1 at 1 doubt 50", "doubt 1 if week > 56");
        Check.due("now", 0, x.first(1, 99));
        Check.due("now", 0, x.first(1, 1));
        Check.due("in 400", 400, x.first(0, 1));
        Check.due("not in 401", -1, x.first(0, 2));
        x.come(2, false);
        Check.due("one away, so now", 0, x.first(2, 50));
        Check.due("one away, less", 0, x.first(2, 1));
        Check.due("one away, not so now", -1, x.first(2, 51));
        x.days(1);
        Check.due("the day goes on: in 399", 399, x.first(0, 1));
        Check.due("and 400", 400, x.first(0, 2));
        for (int doubt : new int[] {LEAST, -1, 0, 100, MOST}) {
            Check.wrong("first of " + doubt, () -> x.first(0, doubt));
            Check.outside("the guest is told first", () -> x.first(3, doubt));
        }
        Check.outside("guest -1", () -> x.first(-1, 1));
        SaturdayKeep y = Check.with("guest wish 1 at 1 doubt 3", "doubt 30 if doubted < 10;calm 9");
        Check.due("at its height only", 1, y.first(0, 24));
        Check.due("never more", -1, y.first(0, 40));
    }

    private static void gone() {
        Check.says("GONE: the first N (0 to 400) AHEAD by which there are no STONES; none.");
        Check.due("no stones now", 0, Check.with("stones 0").gone());
        Check.due("no stones and no masons", 0, Check.with("stones 0;masons 0").gone());
        Check.due("no masons", -1, Check.with("stones 1;masons 0").gone());
        Check.due("one stone", 1, Check.with("stones 1;masons 9").gone());
        Check.due("9 by 9", 1, Check.with("stones 9;masons 9").gone());
        Check.due("10 by 9", 2, Check.with("stones 10;masons 9").gone());
        Check.due("399", 399, Check.with("stones 399").gone());
        Check.due("400", 400, Check.with("stones 400").gone());
        Check.due("401", -1, Check.with("stones 401").gone());
        SaturdayKeep x = Check.with("guest wish 1 at 1;stones 9");
        x.ahead(0, 400, 2);
        Check.due("from now, whatever was asked before", 9, x.gone());
        Check.due("and once more", 9, x.gone());
        Check.due("800 by 2", 400, Check.with("stones 800;masons 2").gone());
        Check.due("801 by 2", -1, Check.with("stones 801;masons 2").gone());
    }

    private static void stand() {
        Check.says("STAND: the first N AHEAD by which there are so many TOWERS (1 to 9999) at least; none.");
        SaturdayKeep x = Check.with("stones 999;masons 2");
        Check.due("stand(1)", 1, x.stand(1));
        Check.due("stand(2)", 1, x.stand(2));
        Check.due("stand(3)", 2, x.stand(3));
        Check.due("stand(800)", 400, x.stand(800));
        Check.due("stand(801)", -1, x.stand(801));
        Check.due("stand(9999)", -1, x.stand(9999));
        SaturdayKeep y = Check.with("stones 5;masons 2");
        Check.due("all stones", 3, y.stand(5));
        Check.due("more than there are stones", -1, y.stand(6));
        y.days(3);
        Check.due("they stand", 0, y.stand(5));
        Check.due("no more", -1, y.stand(6));
        SaturdayKeep z = Check.with("guest wish 1 at 1;stones 9");
        z.ahead(0, 400, 1);
        Check.due("from now, whatever was asked before", 9, z.stand(9));
        Check.due("and once more", 9, z.stand(9));
        for (int n : new int[] {LEAST, -1, 0, 10000, MOST}) {
            Check.wrong("stand(" + n + ")", () -> x.stand(n));
        }
    }

    private static void need() {
        Check.says("NEED of so many TOWERS (1 to 9999): how many STONES must be bought at least, so that there can be so many (0, if there are enough).");
        SaturdayKeep x = Check.with("stones 5;masons 2");
        x.days(1);
        Check.due("need(1)", 0, x.need(1));
        Check.due("need(5): just enough", 0, x.need(5));
        Check.due("need(6)", 1, x.need(6));
        Check.due("need(9999)", 9994, x.need(9999));
        Check.due("of none", 9999, Check.with("stones 0").need(9999));
        Check.due("of none, one", 1, Check.with("stones 0;masons 0").need(1));
        for (int n : new int[] {LEAST, -1, 0, 10000, MOST}) {
            Check.wrong("need(" + n + ")", () -> x.need(n));
        }
    }

    private static void spread() {
        Check.says("SPREAD AHEAD by N DAYS (0 to 400): the greatest DOUBT of those HERE less the least (0 without).");
        Check.due("no guests", 0, new SaturdayKeep().spread(0));
        Check.due("no guests", 0, new SaturdayKeep().spread(400));
        SaturdayKeep x = Check.with("guest wish 1 at 1 doubt 99;guest wish 1 at 1;guest wish 1 at 1 doubt 40", "doubt 1 if week > 56");
        Check.due("the most", 99, x.spread(0));
        Check.due("by 399", 99, x.spread(399));
        Check.due("by 400", 98, x.spread(400));
        for (int n : new int[] {LEAST, -1, 401, MOST}) {
            Check.wrong("spread(" + n + ")", () -> x.spread(n));
        }
        x.come(1, false);
        Check.due("two here", 59, x.spread(0));
        Check.due("two here, by 400", 58, x.spread(400));
        x.come(0, false);
        Check.due("one here", 0, x.spread(400));
        Check.due("all at the most", 0, Check.with("guest wish 1 at 1 doubt 99;guest wish 1 at 1 doubt 99").spread(0));
        Check.due("all at the least", 0, Check.with("guest wish 1 at 1;guest wish 1 at 1").spread(0));
        Check.due("one at the most", 0, Check.with("guest wish 1 at 1 doubt 99").spread(0));
        Check.due("the eighth", 9, Check.with(Check.times(7, "guest wish 1 at 1 doubt 90") + ";guest wish 1 at 1 doubt 99").spread(0));
        Check.due("the eighth", 9, Check.with(Check.times(7, "guest wish 1 at 1 doubt 9") + ";guest wish 1 at 1").spread(0));
        x.come(2, false);
        Check.due("none here", 0, x.spread(0));
        Check.due("none here", 0, x.spread(400));
    }

    private static void trial() {
        Check.says("TRIAL of N DAYS (0 to 60) from now (draws, too; nothing stays): how often it is SEEN in these; HOLES then.");
        SaturdayKeep x = Check.with("guest wish 10 at 0 doubt 99;bore 100;day 5;hole 3 1");
        Check.due("of none", 0, x.trial(0, false));
        Check.due("holes now", 1, x.trial(0, true));
        Check.due("of one", 0, x.trial(1, false));
        Check.due("one hole more", 2, x.trial(1, true));
        Check.due("of two", 1, x.trial(2, false));
        Check.due("of sixty", 9, x.trial(60, false));
        Check.due("all that can be bored", 9, x.trial(60, true));
        Check.due("SEEN in these alone", 1, x.days(2));
        Check.due("not those before", 0, x.trial(6, false));
        Check.due("day", 7, x.count(3));
        Check.due("nothing stays", 1, x.count(14));
        for (int n : new int[] {LEAST, -1, 61, MOST}) {
            Check.wrong("trial(" + n + ")", () -> x.trial(n, false));
            Check.wrong("trial(" + n + ")", () -> x.trial(n, true));
        }
    }

    private static void span() {
        Check.says("SPAN: the fewest and the most times that it is SEEN by such TRIALS from SEED 1, 2, .. 6.");
        for (int wish = 1; wish <= 10; wish++) {
            SaturdayKeep x = Check.with("guest wish " + wish + " at 0 doubt 99;day 6");
            x.seed(12345);
            int looks = 0;
            for (int seed = 1; seed <= 6; seed++) {
                looks += Check.draws(seed, 1)[0] % 10 < wish ? 1 : 0;
            }
            Check.due("the fewest of none", 0, x.span(0, false));
            Check.due("the most of none", 0, x.span(0, true));
            Check.due("the fewest by " + wish, looks == 6 ? 1 : 0, x.span(1, false));
            Check.due("the most by " + wish, looks == 0 ? 0 : 1, x.span(1, true));
            Check.due("SEED stays", 12345, x.seed(1));
        }
        spanBySeeds();
        SaturdayKeep x = Check.with(WATCHER);
        x.days(1);
        Check.due("the fewest of sixty: 13, .. 62", 8, x.span(60, false));
        Check.due("the most of sixty", 8, x.span(60, true));
        for (int n : new int[] {LEAST, -1, 61, MOST}) {
            Check.wrong("span(" + n + ")", () -> x.span(n, false));
            Check.wrong("span(" + n + ")", () -> x.span(n, true));
        }
    }

    /** How often one of this RISK looks in so many DAYS from day 6 on, by a SEED. */
    private static int looksBy(int seed, int risk, int days) {
        int[] draws = Check.draws(seed, 2 * days);
        int next = 0;
        int looks = 0;
        for (int day = 6; day < 6 + days; day++) {
            if (day % 7 == 6) {
                looks += draws[next++] % 10 < risk ? 1 : 0;
            }
            next++;
        }
        return looks;
    }

    private static void spanBySeeds() {
        int alone = 0;
        for (int wish = 1; wish <= 9; wish++) {
            SaturdayKeep x = Check.with("guest wish " + wish + " at 0 doubt 99;day 6");
            for (int days = 1; days <= 60; days += 7) {
                int[] looks = new int[6];
                for (int seed = 1; seed <= 6; seed++) {
                    looks[seed - 1] = looksBy(seed, wish, days);
                }
                int[] sorted = looks.clone();
                java.util.Arrays.sort(sorted);
                Check.due("the fewest of " + days + " by " + wish, sorted[0], x.span(days, false));
                Check.due("the most of " + days + " by " + wish, sorted[5], x.span(days, true));
                for (int i = 0; i < 6; i++) {
                    boolean fewest = looks[i] == sorted[0] && sorted[0] < sorted[1];
                    boolean most = looks[i] == sorted[5] && sorted[5] > sorted[4];
                    alone |= fewest || most ? 1 << i : 0;
                }
            }
        }
        Check.due("each SEED alone is once the one that tells", 63, alone);
    }

    /** Eight look on each of the days 6, 13, .. 48, and four of them on day 55: 60 rows. */
    private static SaturdayKeep sixty() {
        SaturdayKeep x = Check.with(Check.times(8, "guest wish 10 at 0 doubt 99") + ";day 6");
        x.days(43);
        for (int g = 4; g < 8; g++) {
            x.come(g, false);
        }
        x.days(7);
        return x;
    }

    private static void row(SaturdayKeep x, int ago, int day, int guest) {
        int[] due = {day, guest, 0, 0};
        for (int what = 0; what < 4; what++) {
            Check.due("log(" + ago + ", " + what + ")", due[what], x.log(ago, what));
        }
    }

    private static void sixtyRows() {
        Check.says("THE LOG: the latest 60 looks: DAY, the GUEST, his ROOM, the ROOM of THE BATH.");
        SaturdayKeep x = sixty();
        Check.due("rows", 60, x.count(14));
        Check.due("SEEN", 60, x.count(10));
        row(x, 0, 55, 3);
        row(x, 3, 55, 0);
        row(x, 4, 48, 7);
        row(x, 58, 6, 1);
        row(x, 59, 6, 0);
        for (int g = 0; g < 3; g++) {
            x.come(g, false);
        }
        Check.due("one more", 1, x.days(7));
        Check.due("rows", 60, x.count(14));
        Check.due("SEEN", 61, x.count(10));
        row(x, 0, 62, 3);
        row(x, 1, 55, 3);
        row(x, 59, 6, 1);
        Check.due("no 61st", -1, x.log(60, 0));
        x.undo();
        Check.due("undone, the first one is back", 60, x.count(14));
        row(x, 0, 55, 3);
        row(x, 59, 6, 0);
        for (int n = 0; n < 9; n++) {
            x.days(60);
        }
        // 77 looks of the one who is left: the log has gone round
        row(x, 0, 594, 3);
        row(x, 59, 181, 3);
        Check.due("rows", 60, x.count(14));
    }

    private static void led() {
        Check.says("LED: how many rows of THE LOG are of a GUEST; the DAY of the latest (none).");
        SaturdayKeep x = sixty();
        Check.due("rows of 0", 8, x.led(0, false));
        Check.due("the latest of 0", 55, x.led(0, true));
        Check.due("rows of 7", 7, x.led(7, false));
        Check.due("the latest of 7", 48, x.led(7, true));
        for (int g = 0; g < 3; g++) {
            x.come(g, false);
        }
        x.days(7);
        Check.due("the 61st look takes one of 0", 7, x.led(0, false));
        Check.due("none of 1", 8, x.led(1, false));
        Check.due("one more of 3", 9, x.led(3, false));
        for (int n = 0; n < 9; n++) {
            x.days(60);
        }
        Check.due("all are of 3", 60, x.led(3, false));
        Check.due("none of 0 any more", 0, x.led(0, false));
        Check.due("so no day", -1, x.led(0, true));
        SaturdayKeep first = Check.with("guest wish 10 at 0 doubt 99;shift 0 6");
        Check.due("no row", 0, first.led(0, false));
        Check.due("no day", -1, first.led(0, true));
        first.days(1);
        Check.due("DAY 0 is one", 0, first.led(0, true));
        Check.due("one row", 1, first.led(0, false));
    }

    private static void logAgo() {
        Check.says("THE LOG so many ago (0 the latest) what 0 DAY, 1 the GUEST, 2 his ROOM, 3 the ROOM of THE BATH; NONE without."
                + " NoSuchElementException: another what.");
        SaturdayKeep x = Check.with("guest wish 10 at 7 doubt 99;hole 7 5;bath 5;day 6");
        Check.due("without any", -1, x.log(0, 3));
        x.days(1);
        int[] due = {6, 0, 7, 5};
        for (int what = 0; what < 4; what++) {
            Check.due("log(0, " + what + ")", due[what], x.log(0, what));
            for (int ago : new int[] {LEAST, -60, -1, 1, 59, 60, MOST}) {
                Check.due("log(" + ago + ")", -1, x.log(ago, what));
            }
        }
        for (int what : new int[] {LEAST, -1, 4, MOST}) {
            Check.noSuch("what " + what, () -> x.log(0, what));
            Check.noSuch("what " + what + " of none", () -> x.log(-1, what));
            Check.noSuch("what " + what + " of none", () -> x.log(60, what));
        }
        x.go(0, 5);
        x.bath(4);
        Check.due("the room as it was", 7, x.log(0, 2));
        Check.due("the bath as it was", 5, x.log(0, 3));
    }

    private static void seed() {
        Check.says("SEED: what it was.");
        SaturdayKeep x = new SaturdayKeep();
        int was = 1;
        for (int n : new int[] {0, -1, LEAST, MOST, 1, 65536}) {
            Check.due("seed(" + n + ")", was, x.seed(n));
            was = n;
        }
        Check.due("no act", 0, x.count(15));
    }
}
