import java.util.function.Consumer;

/**
 * Of each refused call: which exception, and that nothing has changed but what the document names. Two houses are
 * led the same way, one of them is refused something, and then everything that can be asked of both must be alike:
 * the tape, the acts remembered and the image, too. Likewise of each question that is answered.
 */
public final class RefusedTest {
    private static final int LEAST = Integer.MIN_VALUE;
    private static final int MOST = Integer.MAX_VALUE;
    private static final int[] NO_GUEST = {LEAST, -1, 3, 7, 8, MOST};
    private static final int[] NO_ROOM = {LEAST, -1, 8, MOST};
    private static final int[] NO_CALENDAR = {LEAST, -1, 2, MOST};

    public static void main(String[] args) {
        Check.says("Of several exceptions the one told first is thrown; a call that throws changes nothing but the TAPE,"
                + " where it is used up, and fault(), where a text is read (also by one that is refused).");
        theTestItself();
        texts();
        twelfthText();
        told();
        tape();
        nothingToGoBackTo();
        guests();
        rooms();
        calendars();
        numbers();
        others();
        questions();
        Check.end("RefusedTest");
    }

    /** A house in which something of each kind is there to be changed. */
    private static SaturdayKeep house() {
        SaturdayKeep x = Check.with("guest wish 10 at 3 doubt 60;guest wish 8 at 2 doubt 20 key;guest wish 9 at 4 doubt 70;"
                + "hole 4 3;bath 3;bore 60;shift 0 1;shift 1 4;day 2", "doubt 2 if eve or key;calm 1 if towers > 30");
        x.days(20);
        x.image();
        x.bath(4);
        x.keep(1);
        x.days(30);
        x.come(2, false);
        x.hole(1, 6, true);
        x.buy(77);
        Check.tape(x, "day 1;x");
        try {
            x.law();
        } catch (IllegalArgumentException e) {
            // a fault is left behind: 0
        }
        Check.tape(x, "bath 6;day 5");
        return x;
    }

    private static void brief(SaturdayKeep x, StringBuilder all) {
        for (int what = 0; what < 16; what++) {
            all.append(x.count(what)).append(' ');
        }
        int seed = x.seed(7);
        x.seed(seed);
        all.append(seed).append('\n');
    }

    private static String without(SaturdayKeep x) {
        StringBuilder all = new StringBuilder();
        brief(x, all);
        for (int g = 0; g < x.count(0); g++) {
            for (int what = 0; what < 9; what++) {
                all.append(x.guest(g, what)).append(' ');
            }
        }
        for (int room = 0; room < 8; room++) {
            all.append(x.room(room, 0)).append(' ');
        }
        for (int calendar = 0; calendar < 2; calendar++) {
            all.append(x.calendar(calendar, false)).append(' ');
        }
        int rows = x.count(14);
        for (int ago = 0; ago <= rows; ago++) {
            for (int what = 0; what < 4; what++) {
                all.append(x.log(ago, what)).append(' ');
            }
        }
        return all.append('\n').toString();
    }

    /** All but the fault; what is asked last changes the house. */
    private static String all(SaturdayKeep x) {
        StringBuilder all = new StringBuilder(without(x));
        int length = x.feed(0, 0, 0, 0, 0) - 20;
        all.append("tape ").append(length).append(x.end(length)).append('\n');
        for (int n = 0; n < 13 && x.undo(); n++) {
            all.append("undone ");
            brief(x, all);
        }
        all.append("back ").append(x.back()).append('\n');
        brief(x, all);
        try {
            all.append("text ").append(x.house()).append('\n');
        } catch (IllegalArgumentException e) {
            all.append("wrong at ").append(x.fault()).append('\n');
        } catch (UnsupportedOperationException e) {
            all.append("one too many\n");
        }
        return all.append(without(x)).toString();
    }

    /** A call of a house changes just what these do to its twin; the fault is told. */
    private static void same(String call, SaturdayKeep x, Consumer<SaturdayKeep> it, SaturdayKeep twin,
            Consumer<SaturdayKeep> instead, int fault) {
        it.accept(x);
        instead.accept(twin);
        Check.due("fault behind " + call, fault, x.fault());
        String got = all(x);
        String due = all(twin);
        Check.yes("all as it was behind " + call, got.equals(due));
    }

    private static void nothing(SaturdayKeep x) {
    }

    private static void unchanged(String call, Consumer<SaturdayKeep> it) {
        same(call, house(), it, house(), RefusedTest::nothing, 0);
    }

    private static void refused(String call, Class<? extends RuntimeException> want, Consumer<SaturdayKeep> it) {
        unchanged(call, x -> Check.thrown(call, want, () -> it.accept(x)));
    }

    private static void outside(String call, Consumer<SaturdayKeep> it) {
        refused(call, IndexOutOfBoundsException.class, it);
    }

    private static void wrong(String call, Consumer<SaturdayKeep> it) {
        refused(call, IllegalArgumentException.class, it);
    }

    private static void noSuch(String call, Consumer<SaturdayKeep> it) {
        refused(call, java.util.NoSuchElementException.class, it);
    }

    private static void differs(String what, Consumer<SaturdayKeep> it) {
        SaturdayKeep x = house();
        it.accept(x);
        Check.no(what + " is seen", all(x).equals(all(house())));
    }

    private static void theTestItself() {
        Check.yes("twins are alike", all(house()).equals(all(house())));
        differs("an act", x -> x.bath(4));
        differs("a seed", x -> x.seed(5));
        differs("an image", SaturdayKeep::image);
        differs("a byte less", x -> x.end(11));
        differs("more bytes", x -> x.feed(0x20202020, 0, 0, 0, 0));
        differs("an act undone", SaturdayKeep::undo);
        differs("a look", x -> x.days(60));
        differs("going back", SaturdayKeep::back);
    }

    private static void usedUp(String call, Class<? extends RuntimeException> want, String text, Consumer<SaturdayKeep> it, int fault) {
        SaturdayKeep x = house();
        x.end(0);
        Check.tape(x, text);
        SaturdayKeep twin = house();
        same(call, x, y -> Check.thrown(call, want, () -> it.accept(y)), twin, y -> y.end(0), fault);
    }

    private static void texts() {
        Check.says("IllegalArgumentException: it is wrong");
        Check.says("IllegalArgumentException: the text is wrong.");
        String[][] wrong = {{"bath 1;hole 1 2;day 9;keep 0;", "29"}, {"guest wish 1 at 1;stones 9;masons 9;bath", "40"},
            {"shift 0 6;shift 1 6;bore 9;bore 101", "32"}, {"x", "0"}, {"  ;", "2"}};
        for (String[] w : wrong) {
            usedUp("house " + w[0], IllegalArgumentException.class, w[0], SaturdayKeep::house, Integer.parseInt(w[1]));
        }
        String[][] law = {{"doubt 1;calm 31", "13"}, {"doubt 1;", "8"}, {"calm 3 if key or", "16"}, {"bath 1", "0"}};
        for (String[] w : law) {
            usedUp("law " + w[0], IllegalArgumentException.class, w[0], SaturdayKeep::law, Integer.parseInt(w[1]));
        }
    }

    private static SaturdayKeep twelve() {
        SaturdayKeep x = new SaturdayKeep();
        for (int n = 0; n < 12; n++) {
            Check.house(x, n == 0 ? "guest wish 3 at 3" : "");
        }
        x.bath(1);
        x.bath(2);
        return x;
    }

    private static void twelfthText() {
        Check.says("UnsupportedOperationException: there are 12.");
        String[][] texts = {{"bath 6;guest wish 1 at 1", "-1"}, {"", "-1"}, {"   ", "-1"}};
        for (String[] t : texts) {
            SaturdayKeep x = twelve();
            Check.tape(x, t[0]);
            same("a 13th text " + t[0], x, y -> Check.thrown("a 13th text", UnsupportedOperationException.class, y::house),
                    twelve(), y -> y.end(0), Integer.parseInt(t[1]));
        }
        SaturdayKeep x = twelve();
        Check.tape(x, "bath 6;bath");
        same("a wrong 13th text", x, y -> Check.wrong("a wrong 13th text", y::house), twelve(), y -> y.end(0), 11);
    }

    private static void told() {
        Check.says("IllegalArgumentException: the TAPE is not that");
        String[] wrong = {"\u0007\u0001", "\u0000\u0002", "\u0000", "\u0001\u0000\u0001\u0003", "\u00ff\u0000"};
        for (String told : wrong) {
            usedUp("shifts", IllegalArgumentException.class, told, SaturdayKeep::shifts, 0);
            usedUp("ask", IllegalArgumentException.class, told, SaturdayKeep::ask, 0);
        }
        String[] weeks = {"\u0034\u0001", "\u0000\u0002", "\u0000", "\u0001\u0000\u0001\u0003", "\u00ff\u0000"};
        for (String told : weeks) {
            usedUp("bored", IllegalArgumentException.class, told, x -> x.bored(false), 0);
            usedUp("bored", IllegalArgumentException.class, told, x -> x.bored(true), 0);
            usedUp("look", IllegalArgumentException.class, told, SaturdayKeep::look, 0);
        }
        String right = "\u0001\u0000\u0002\u0000";
        SaturdayKeep x = house();
        x.end(0);
        Check.tape(x, right);
        same("shifts that are answered", x, SaturdayKeep::shifts, house(), y -> y.end(0), 0);
        for (boolean least : new boolean[] {false, true}) {
            SaturdayKeep w = house();
            w.end(0);
            Check.tape(w, right);
            same("bored that is answered", w, y -> y.bored(least), house(), y -> y.end(0), 0);
        }
    }

    private static void tape() {
        Check.says("NONE, and none come, if it would have more than 400.");
        Check.says("false, and nothing happens, if it has fewer, or n is below 0.");
        for (int n : new int[] {LEAST, -1, 13, 14, 401, MOST}) {
            unchanged("end(" + n + ")", x -> Check.no("end(" + n + ")", x.end(n)));
        }
        unchanged("end(12)", x -> Check.yes("end(12)", x.end(12)));
        SaturdayKeep x = house();
        SaturdayKeep twin = house();
        for (int n = 32; n <= 392; n += 20) {
            x.feed(0x3b64790a, 0, 0, 0, 0);
            twin.feed(0x3b64790a, 0, 0, 0, 0);
        }
        same("feed", x, y -> Check.due("feed beyond 400", -1, y.feed(1, 2, 3, 4, 5)), twin, RefusedTest::nothing, 0);
    }

    private static void nothingToGoBackTo() {
        Check.says("false, and nothing happens, if none was kept.");
        SaturdayKeep x = twelve();
        same("back without an image", x, y -> Check.no("back", y.back()), twelve(), RefusedTest::nothing, -1);
        SaturdayKeep none = Check.with("guest wish 3 at 3", "doubt 4");
        SaturdayKeep twin = Check.with("guest wish 3 at 3", "doubt 4");
        same("undo without an act", none, y -> Check.no("undo", y.undo()), twin, RefusedTest::nothing, -1);
    }

    private static void guests() {
        Check.says("IndexOutOfBoundsException: there is no such GUEST, ROOM, CALENDAR.");
        for (int n : NO_GUEST) {
            outside("guest(" + n + ")", x -> x.guest(n, 0));
            outside("go(" + n + ")", x -> x.go(n, 0));
            outside("come(" + n + ")", x -> x.come(n, false));
            outside("come(" + n + ")", x -> x.come(n, true));
            outside("key(" + n + ")", x -> x.key(n, false));
            outside("key(" + n + ")", x -> x.key(n, true));
            outside("calm(" + n + ")", x -> x.calm(n));
            outside("ahead(" + n + ")", x -> x.ahead(n, 1, 0));
            outside("first(" + n + ")", x -> x.first(n, 1));
            outside("rests(" + n + ")", x -> x.rests(n));
            outside("led(" + n + ")", x -> x.led(n, false));
            outside("led(" + n + ")", x -> x.led(n, true));
        }
    }

    private static void rooms() {
        for (int n : NO_ROOM) {
            outside("room(" + n + ")", x -> x.room(n, 0));
            outside("go(0, " + n + ")", x -> x.go(0, n));
            outside("hole(" + n + ", 0)", x -> x.hole(n, 0, true));
            outside("hole(0, " + n + ")", x -> x.hole(0, n, true));
            outside("hole(4, " + n + ")", x -> x.hole(4, n, false));
            outside("hole of twice " + n, x -> x.hole(n, n, true));
            outside("bath(" + n + ")", x -> x.bath(n));
            outside("line(" + n + ", 0)", x -> x.line(n, 0));
            outside("line(0, " + n + ")", x -> x.line(0, n));
            outside("pass(" + n + ", 0)", x -> x.pass(n, 0));
            outside("pass(0, " + n + ")", x -> x.pass(0, n));
        }
        for (int n = 0; n < 8; n++) {
            int room = n;
            wrong("hole of twice " + n, x -> x.hole(room, room, true));
            wrong("hole of twice " + n, x -> x.hole(room, room, false));
        }
    }

    private static void calendars() {
        for (int n : NO_CALENDAR) {
            outside("calendar(" + n + ")", x -> x.calendar(n, false));
            outside("calendar(" + n + ")", x -> x.calendar(n, true));
            outside("saturday(" + n + ")", x -> x.saturday(n, 6));
            outside("saturday(" + n + ") of no day", x -> x.saturday(n, -1));
            outside("keep(" + n + ")", x -> x.keep(n));
        }
    }

    private static void beyond(String call, int least, int most, java.util.function.ObjIntConsumer<SaturdayKeep> it) {
        for (int n : new int[] {LEAST, least - 1, most + 1, MOST}) {
            wrong(call + " of " + n, x -> it.accept(x, n));
        }
    }

    private static void numbers() {
        Check.says("IllegalArgumentException: a number is none, or two are one.");
        beyond("saturday", 0, 9999, (x, n) -> x.saturday(0, n));
        beyond("masons", 0, 9, SaturdayKeep::masons);
        beyond("buy", 1, 999, SaturdayKeep::buy);
        beyond("days", 1, 60, SaturdayKeep::days);
        beyond("ahead", 0, 400, (x, n) -> x.ahead(0, n, 0));
        beyond("saturdays", 0, 400, SaturdayKeep::saturdays);
        beyond("first", 1, 99, (x, n) -> x.first(0, n));
        beyond("stand", 1, 9999, SaturdayKeep::stand);
        beyond("sent", 0, 9999, SaturdayKeep::sent);
        beyond("agree", 0, 400, SaturdayKeep::agree);
        beyond("need", 1, 9999, SaturdayKeep::need);
        beyond("spread", 0, 400, SaturdayKeep::spread);
        beyond("trial", 0, 60, (x, n) -> x.trial(n, false));
        beyond("trial", 0, 60, (x, n) -> x.trial(n, true));
        beyond("span", 0, 60, (x, n) -> x.span(n, false));
        beyond("span", 0, 60, (x, n) -> x.span(n, true));
    }

    private static void others() {
        Check.says("NoSuchElementException: another what.");
        for (int n : new int[] {LEAST, -1, 9, MOST}) {
            noSuch("guest what " + n, x -> x.guest(0, n));
            outside("no guest, what " + n, x -> x.guest(3, n));
        }
        for (int n : new int[] {LEAST, -1, 4, MOST}) {
            noSuch("room what " + n, x -> x.room(0, n));
            outside("no room, what " + n, x -> x.room(8, n));
            noSuch("log what " + n, x -> x.log(0, n));
            noSuch("log of none, what " + n, x -> x.log(-1, n));
        }
        for (int n : new int[] {LEAST, -1, 3, MOST}) {
            noSuch("ahead what " + n, x -> x.ahead(0, 400, n));
            wrong("ahead by 401 what " + n, x -> x.ahead(0, 401, n));
            outside("no guest ahead by 401 what " + n, x -> x.ahead(3, 401, n));
        }
        outside("first of no guest and no doubt", x -> x.first(3, 0));
        outside("go of no guest to no room", x -> x.go(3, 8));
    }

    private static void questions() {
        Check.says("Nothing is promised beyond the answers and state changes described above");
        unchanged("what is there", RefusedTest::askOfThings);
        unchanged("what is ahead", x -> {
            for (int n : new int[] {0, 1, 60, 400}) {
                x.saturdays(n);
                x.agree(n);
                x.spread(n);
                x.ahead(0, n, 0);
                x.ahead(1, n, 1);
                x.ahead(2, n, 2);
            }
            for (int n : new int[] {1, 50, 99}) {
                x.first(0, n);
                x.stand(n);
                x.need(n);
            }
            x.both();
            x.gone();
        });
        unchanged("trials", x -> {
            for (int n : new int[] {0, 1, 60}) {
                x.trial(n, false);
                x.trial(n, true);
                x.span(n, false);
                x.span(n, true);
            }
        });
        unchanged("who sees", x -> {
            x.odds();
            x.send();
            x.sent(0);
            x.mend();
            x.shut();
            x.quiet();
            x.best();
            x.keenest();
            x.alike();
            x.well();
            x.crowd();
            x.locked();
            x.mutual();
            for (int n = -1; n < 4; n++) {
                x.lodge(n);
            }
            for (int room = 0; room < 8; room++) {
                x.line(room, 7);
                x.pass(room, 7);
            }
        });
    }

    private static void askOfThings(SaturdayKeep x) {
        x.fault();
        for (int g = 0; g < 3; g++) {
            for (int what = 0; what < 9; what++) {
                x.guest(g, what);
            }
            x.rests(g);
            x.led(g, false);
            x.led(g, true);
        }
        for (int room = 0; room < 8; room++) {
            for (int what = 0; what < 4; what++) {
                x.room(room, what);
            }
        }
        for (int calendar = 0; calendar < 2; calendar++) {
            x.calendar(calendar, false);
            x.calendar(calendar, true);
            x.saturday(calendar, 9999);
        }
        for (int what = -1; what < 17; what++) {
            x.count(what);
        }
        x.log(0, 0);
        x.log(60, 3);
    }
}
