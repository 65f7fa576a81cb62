/** The document's edges, sentence by sentence: a new object, rooms, guests, calendars, and the acts. */
public final class EdgesOfActsTest {
    private static final int LEAST = Integer.MIN_VALUE;
    private static final int MOST = Integer.MAX_VALUE;
    private static final String EIGHT = "guest wish 0 at 0;" + Check.times(6, "guest wish 5 at 3 doubt 49") + ";guest wish 10 at 7 doubt 99 key";

    public static void main(String[] args) {
        withoutGuests();
        inARound();
        oneWay();
        sees();
        risk();
        eightOrNone();
        whatOfAGuest();
        whatOfARoom();
        share();
        saturdays();
        nextSaturday();
        going();
        coming();
        keys();
        holes();
        carrying();
        keeping();
        masons();
        buying();
        calming();
        Check.end("EdgesOfActsTest");
    }

    private static SaturdayKeep eight() {
        return Check.with(EIGHT);
    }

    private static void withoutGuests() {
        Check.says("A house without GUESTS.");
        Check.says("THE BATH: a ROOM (0 at first). CALENDARS 0 (old) and 1 (new), each of a SHIFT 0 to 6 (0 and 3 at first)");
        Check.says("KEPT: a CALENDAR (0 at first).");
        Check.says("MASONS 0 to 9 (1 at first), STONES 0 to 9999 (100 at first), TOWERS 0 to 9999 (0 at first).");
        Check.says("BORE 0 to 100 (0 at first). DAY: 0 at first. SEEN: how often it was seen (0 at first).");
        SaturdayKeep x = new SaturdayKeep();
        int[] due = {0, 0, -1, 0, 0, 0, 1, 100, 0, 0, 0, 0, 0, 0, 0, 0};
        for (int what = 0; what < due.length; what++) {
            Check.due("count(" + what + ")", due[what], x.count(what));
        }
        for (int room = 0; room < 8; room++) {
            for (int what = 0; what < 4; what++) {
                Check.due("room(" + room + ", " + what + ")", 0, x.room(room, what));
            }
        }
        Check.due("SHIFT of the old one", 0, x.calendar(0, false));
        Check.due("SHIFT of the new one", 3, x.calendar(1, false));
        Check.due("no fault", -1, x.fault());
        Check.due("no row", -1, x.log(0, 0));
        Check.no("no act", x.undo());
        Check.no("no image", x.back());
        Check.no("no byte", x.end(1));
        Check.due("SEED", 1, x.seed(1));
        Check.outside("no guest", () -> x.guest(0, 0));
    }

    private static void inARound() {
        Check.says("ROOMS 0 to 7 in a round (7 and 0 are beside one another, too).");
        for (int room = 0; room < 8; room++) {
            SaturdayKeep x = Check.with("guest wish 1 at " + room + " key");
            int beside = 1 << (room == 7 ? 0 : room + 1) | 1 << (room == 0 ? 7 : room - 1);
            Check.due("beside " + room, beside | 1 << room, x.guest(0, 7));
            Check.due("its watcher", 1, x.room((room + 1) & 7, 3));
            Check.due("no watcher of the second one", 0, x.room((room + 2) & 7, 3));
            x.key(0, false);
            Check.due("without a key", 1 << room, x.guest(0, 7));
        }
    }

    private static void oneWay() {
        Check.says("HOLES: from a ROOM into another one (it is seen from the first one; the other way is another HOLE); at first none.");
        SaturdayKeep x = Check.with("guest wish 1 at 7;guest wish 1 at 0");
        x.hole(7, 0, true);
        Check.due("from 7", 1, x.room(7, 0));
        Check.due("into 0", 128, x.room(0, 1));
        Check.due("none from 0", 0, x.room(0, 0));
        Check.due("none into 7", 0, x.room(7, 1));
        Check.due("he of 7 sees 0", 129, x.guest(0, 7));
        Check.due("he of 0 does not see 7", 1, x.guest(1, 7));
        Check.yes("another hole", x.hole(0, 7, true));
        Check.due("two", 2, x.count(11));
        Check.due("now he does", 129, x.guest(1, 7));
        SaturdayKeep all = new SaturdayKeep();
        for (int a = 0; a < 8; a++) {
            for (int b = 0; b < 8; b++) {
                if (a != b) {
                    Check.yes("bored", all.hole(a, b, true));
                }
            }
            Check.due("all the others from " + a, 255 ^ 1 << a, all.room(a, 0));
        }
        Check.due("all that there can be", 56, all.count(11));
        Check.due("all the others into 7", 127, all.room(7, 1));
    }

    private static void sees() {
        Check.says("A GUEST SEES a ROOM, if it is his own one, or there is a HOLE from his ROOM into it; with a KEY also ROOMS beside his own.");
        Check.says("WATCHERS of a ROOM: GUESTS HERE who SEE it.");
        SaturdayKeep x = Check.with("guest wish 1 at 2;guest wish 1 at 2 key;hole 2 6;hole 6 5;hole 4 3");
        Check.due("own one and by the hole", 4 | 64, x.guest(0, 7));
        Check.due("beside, too", 4 | 64 | 2 | 8, x.guest(1, 7));
        Check.due("watchers of 2", 3, x.room(2, 3));
        Check.due("watchers of 3", 2, x.room(3, 3));
        Check.due("not by two holes", 0, x.room(5, 3));
        x.come(1, false);
        Check.due("one away watches none", 1, x.room(2, 3));
        Check.due("nor by key", 0, x.room(3, 3));
        x.come(0, false);
        Check.due("none here", 0, x.room(2, 3));
    }

    private static void risk() {
        Check.says("RISK of a GUEST: WISH, if DOUBT is 50 at least, else the half of WISH, rounded down.");
        for (int wish = 0; wish <= 10; wish++) {
            int[][] due = {{0, wish / 2}, {49, wish / 2}, {50, wish}, {99, wish}};
            for (int[] d : due) {
                Check.due("wish " + wish + " doubt " + d[0], d[1], Check.with("guest wish " + wish + " at 1 doubt " + d[0]).guest(0, 5));
            }
        }
    }

    private static void eightOrNone() {
        Check.says("IndexOutOfBoundsException: there is no such GUEST, ROOM, CALENDAR.");
        SaturdayKeep none = new SaturdayKeep();
        Check.outside("guest 0 of none", () -> none.guest(0, 0));
        SaturdayKeep one = Check.with("guest wish 1 at 1");
        Check.due("guest 0 of one", 1, one.guest(0, 0));
        Check.outside("guest 1 of one", () -> one.guest(1, 0));
        SaturdayKeep x = eight();
        Check.due("guest 7 of eight", 7, x.guest(7, 0));
        for (int guest : new int[] {LEAST, -1, 8, 9, 31, 32, 33, MOST}) {
            Check.outside("guest(" + guest + ")", () -> x.guest(guest, 0));
            Check.outside("rests(" + guest + ")", () -> x.rests(guest));
            Check.outside("led(" + guest + ")", () -> x.led(guest, false));
            Check.outside("led(" + guest + ")", () -> x.led(guest, true));
        }
        for (int room : new int[] {LEAST, -1, 8, 9, 32, 40, MOST}) {
            Check.outside("room(" + room + ")", () -> x.room(room, 0));
            Check.outside("line(" + room + ", 0)", () -> x.line(room, 0));
            Check.outside("line(0, " + room + ")", () -> x.line(0, room));
            Check.outside("line of the same", () -> x.line(room, room));
            Check.outside("pass(" + room + ", 0)", () -> x.pass(room, 0));
            Check.outside("pass(0, " + room + ")", () -> x.pass(0, room));
            Check.outside("pass of the same", () -> x.pass(room, room));
        }
        for (int calendar : new int[] {LEAST, -1, 2, 3, MOST}) {
            Check.outside("calendar(" + calendar + ", false)", () -> x.calendar(calendar, false));
            Check.outside("calendar(" + calendar + ", true)", () -> x.calendar(calendar, true));
            Check.outside("saturday(" + calendar + ", 6)", () -> x.saturday(calendar, 6));
        }
    }

    private static void whatOfAGuest() {
        Check.says("Of a GUEST what 0 the ROOM, 1 WISH, 2 DOUBT, 3 1 with a KEY, 4 1 if HERE, 5 RISK, 6 what he TURNS by now,"
                + " 7 SPIES, as bits, 8 SHARE. NoSuchElementException: another what.");
        SaturdayKeep x = eight();
        int[][] due = {{0, 0, 0, 0, 1, 0, 1, 1, 0}, {7, 10, 99, 1, 1, 10, 1, 193, 25}};
        for (int what = 0; what <= 8; what++) {
            Check.due("guest(0, " + what + ")", due[0][what], x.guest(0, what));
            Check.due("guest(7, " + what + ")", due[1][what], x.guest(7, what));
        }
        for (int what : new int[] {LEAST, -1, 9, MOST}) {
            Check.noSuch("guest(0, " + what + ")", () -> x.guest(0, what));
            Check.outside("the guest is told first", () -> x.guest(8, what));
        }
    }

    private static void whatOfARoom() {
        Check.says("Of a ROOM what 0 ROOMS into which there are HOLES from it, 1 ROOMS from which there are HOLES into it,"
                + " 2 GUESTS HERE in it, 3 WATCHERS (all as bits). NoSuchElementException: another what.");
        SaturdayKeep x = eight();
        x.hole(3, 0, true);
        x.hole(0, 7, true);
        int[][] due = {{128, 8, 1, 1 | 126 | 128}, {0, 1, 128, 1 | 128}, {1, 0, 126, 126}};
        int[] rooms = {0, 7, 3};
        for (int i = 0; i < rooms.length; i++) {
            for (int what = 0; what <= 3; what++) {
                Check.due("room(" + rooms[i] + ", " + what + ")", due[i][what], x.room(rooms[i], what));
            }
        }
        for (int g = 0; g < 8; g++) {
            x.come(g, false);
        }
        Check.due("none here in it", 0, x.room(3, 2));
        Check.due("none here watches it", 0, x.room(3, 3));
        for (int what : new int[] {LEAST, -1, 4, MOST}) {
            Check.noSuch("room(0, " + what + ")", () -> x.room(0, what));
            Check.outside("the room is told first", () -> x.room(8, what));
        }
    }

    private static void share() {
        Check.says("SHARE of a GUEST: DOUBT in hundredths of that of all HERE, rounded down (0 without, or away).");
        SaturdayKeep x = Check.with("guest wish 1 at 1 doubt 1;guest wish 1 at 1 doubt 99;guest wish 1 at 1 doubt 99;guest wish 1 at 1");
        Check.due("below one hundredth", 0, x.guest(0, 8));
        Check.due("49 and a half", 49, x.guest(1, 8));
        Check.due("without doubt", 0, x.guest(3, 8));
        x.come(1, false);
        Check.due("just one hundredth", 1, x.guest(0, 8));
        Check.due("just 99", 99, x.guest(2, 8));
        Check.due("away", 0, x.guest(1, 8));
        x.come(0, false);
        Check.due("all of it", 100, x.guest(2, 8));
        x.come(2, false);
        Check.due("none of those here has any", 0, x.guest(3, 8));
        SaturdayKeep little = Check.with("guest wish 1 at 1 doubt 1;guest wish 1 at 1");
        Check.due("all of it, be it 1 alone", 100, little.guest(0, 8));
        Check.due("nothing of it", 0, little.guest(1, 8));
        Check.due("of one away", 0, x.guest(2, 8));
        x.come(3, false);
        Check.due("none here", 0, x.guest(3, 8));
    }

    private static void saturdays() {
        Check.says("a DAY is SATURDAY by a CALENDAR, if DAY and SHIFT, together, modulo 7 are 6.");
        Check.says("Whether a DAY (0 to 9999) is SATURDAY by a CALENDAR. IllegalArgumentException: the DAY is none.");
        for (int shift = 0; shift < 7; shift++) {
            SaturdayKeep x = Check.with("shift 0 " + shift + ";shift 1 " + (6 - shift) + ";day 500");
            for (int day = 0; day < 16; day++) {
                Check.due("day " + day, (day + shift) % 7 == 6 ? 1 : 0, x.saturday(0, day) ? 1 : 0);
                Check.due("day " + day, (day + 6 - shift) % 7 == 6 ? 1 : 0, x.saturday(1, day) ? 1 : 0);
            }
            // 9999 is a day of the week 3
            Check.due("the last day", shift == 3 ? 1 : 0, x.saturday(0, 9999) ? 1 : 0);
            Check.due("the one before", shift == 4 ? 1 : 0, x.saturday(0, 9998) ? 1 : 0);
            Check.wrong("below 0", () -> x.saturday(0, -1));
            Check.wrong("beyond 9999", () -> x.saturday(1, 10000));
            Check.wrong("the least", () -> x.saturday(0, LEAST));
            Check.wrong("the most", () -> x.saturday(1, MOST));
            Check.outside("the calendar is told first", () -> x.saturday(2, 10000));
        }
    }

    private static void nextSaturday() {
        Check.says("NEXT SATURDAY by a CALENDAR: in how many DAYS (0: today).");
        for (int day = 0; day < 8; day++) {
            SaturdayKeep x = Check.with("shift 0 0;shift 1 6;day " + day);
            Check.due("by shift 0 on " + day, day == 7 ? 6 : 6 - day, x.calendar(0, true));
            Check.due("by shift 6 on " + day, day % 7 == 0 ? 0 : 7 - day, x.calendar(1, true));
        }
    }

    private static void acts(SaturdayKeep x, int due) {
        Check.due("acts", due, x.count(15));
    }

    private static void going() {
        Check.says("A GUEST goes: the ROOM where he was.");
        SaturdayKeep x = eight();
        Check.due("go(7, 0)", 7, x.go(7, 0));
        Check.due("go(0, 7)", 0, x.go(0, 7));
        Check.due("go(0, 7) again", 7, x.go(0, 7));
        Check.due("there", 1, x.room(7, 2));
        acts(x, 3);
        for (int n : new int[] {LEAST, -1, 8, MOST}) {
            Check.outside("guest " + n, () -> x.go(n, 0));
            Check.outside("room " + n, () -> x.go(0, n));
            Check.outside("both " + n, () -> x.go(n, n));
        }
        acts(x, 3);
        Check.due("where he went", 7, x.guest(0, 0));
    }

    private static void coming() {
        Check.says("HERE, or away: whether that changed.");
        SaturdayKeep x = eight();
        for (int g : new int[] {0, 7}) {
            Check.no("here he is", x.come(g, true));
            Check.yes("he is sent away", x.come(g, false));
            Check.no("he is away", x.come(g, false));
            Check.due("away", 0, x.guest(g, 4));
        }
        Check.due("the six others", 126, x.count(12));
        Check.yes("he comes", x.come(7, true));
        acts(x, 7);
        for (int n : new int[] {LEAST, -1, 8, MOST}) {
            Check.outside("come(" + n + ")", () -> x.come(n, true));
            Check.outside("come(" + n + ")", () -> x.come(n, false));
        }
        acts(x, 7);
        Check.due("the others and he", 254, x.count(12));
    }

    private static void keys() {
        Check.says("A KEY, or none: whether that changed.");
        SaturdayKeep x = eight();
        Check.no("he of 7 has one", x.key(7, true));
        Check.yes("he gives it", x.key(7, false));
        Check.no("he has none", x.key(7, false));
        Check.no("he of 0 has none", x.key(0, false));
        Check.yes("he is given one", x.key(0, true));
        Check.due("he sees round", 131, x.guest(0, 7));
        x.come(0, false);
        Check.yes("one away gives it", x.key(0, false));
        acts(x, 7);
        for (int n : new int[] {LEAST, -1, 8, MOST}) {
            Check.outside("key(" + n + ")", () -> x.key(n, true));
            Check.outside("key(" + n + ")", () -> x.key(n, false));
        }
        acts(x, 7);
    }

    private static void holes() {
        Check.says("A HOLE is bored, or mended: whether that changed. IllegalArgumentException: both are one.");
        SaturdayKeep x = new SaturdayKeep();
        Check.no("none is mended", x.hole(0, 7, false));
        Check.yes("bored", x.hole(0, 7, true));
        Check.no("bored again", x.hole(0, 7, true));
        Check.yes("the other way", x.hole(7, 0, true));
        Check.yes("mended", x.hole(0, 7, false));
        Check.no("mended again", x.hole(0, 7, false));
        acts(x, 6);
        for (int room = 0; room < 8; room++) {
            int r = room;
            Check.wrong("both are " + r, () -> x.hole(r, r, true));
            Check.wrong("both are " + r, () -> x.hole(r, r, false));
        }
        for (int n : new int[] {LEAST, -1, 8, MOST}) {
            Check.outside("from " + n, () -> x.hole(n, 0, true));
            Check.outside("into " + n, () -> x.hole(7, n, true));
            Check.outside("both are one, but none: told first", () -> x.hole(n, n, false));
        }
        acts(x, 6);
        Check.due("one hole", 1, x.count(11));
        Check.due("from 7", 1, x.room(7, 0));
    }

    private static void carrying() {
        Check.says("THE BATH is carried: the ROOM where it was.");
        SaturdayKeep x = new SaturdayKeep();
        for (int room = 0; room < 8; room++) {
            Check.due("bath(" + room + ")", Math.max(0, room - 1), x.bath(room));
            Check.due("there", room, x.count(4));
        }
        Check.due("from 7 to 7", 7, x.bath(7));
        acts(x, 9);
        for (int n : new int[] {LEAST, -1, 8, MOST}) {
            Check.outside("bath(" + n + ")", () -> x.bath(n));
        }
        acts(x, 9);
        Check.due("where it is", 7, x.count(4));
    }

    private static void keeping() {
        Check.says("A CALENDAR is KEPT: the one that was.");
        SaturdayKeep x = new SaturdayKeep();
        Check.due("0 for 0", 0, x.keep(0));
        Check.due("1 for 0", 0, x.keep(1));
        Check.due("1 for 1", 1, x.keep(1));
        Check.due("0 for 1", 1, x.keep(0));
        x.keep(1);
        acts(x, 5);
        for (int n : new int[] {LEAST, -1, 2, MOST}) {
            Check.outside("keep(" + n + ")", () -> x.keep(n));
        }
        acts(x, 5);
        Check.due("kept", 1, x.count(5));
    }

    private static void masons() {
        Check.says("MASONS are told: how many there were. IllegalArgumentException: they are none (0 to 9).");
        SaturdayKeep x = new SaturdayKeep();
        int was = 1;
        for (int n = 0; n <= 9; n++) {
            Check.due("masons(" + n + ")", was, x.masons(n));
            was = n;
        }
        acts(x, 10);
        for (int n : new int[] {LEAST, -1, 10, MOST}) {
            Check.wrong("masons(" + n + ")", () -> x.masons(n));
        }
        acts(x, 10);
        Check.due("masons", 9, x.count(6));
    }

    private static void buying() {
        Check.says("STONES are bought: how many there are then (9999 at most). IllegalArgumentException: they are none (1 to 999).");
        SaturdayKeep x = Check.with("stones 0");
        Check.due("buy(1)", 1, x.buy(1));
        Check.due("buy(999)", 1000, x.buy(999));
        for (int n : new int[] {LEAST, -1, 0, 1000, MOST}) {
            Check.wrong("buy(" + n + ")", () -> x.buy(n));
        }
        acts(x, 2);
        for (int n = 2; n <= 10; n++) {
            Check.due("stones", 1000 + 999 * (n - 1), x.buy(999));
        }
        // 9991 by now
        Check.due("just below", 9998, x.buy(7));
        Check.due("just so many", 9999, x.buy(1));
        Check.due("no more", 9999, x.buy(1));
        Check.due("no more by 999", 9999, x.buy(999));
        Check.due("stones", 9999, x.count(7));
        acts(x, 12);
        x.undo();
        x.undo();
        x.undo();
        Check.due("undone", 9998, x.count(7));
        Check.due("beyond by 998", 9999, x.buy(999));
    }

    private static void calming() {
        Check.says("a GUEST is calmed (DOUBT half, rounded down)");
        Check.says("A GUEST is calmed: DOUBT then.");
        int[][] due = {{0, 0}, {1, 0}, {2, 1}, {3, 1}, {50, 25}, {98, 49}, {99, 49}};
        for (int[] d : due) {
            SaturdayKeep x = Check.with("guest wish 1 at 1 doubt 50;guest wish 1 at 1 doubt " + d[0]);
            Check.due("calm of " + d[0], d[1], x.calm(1));
            Check.due("his doubt", d[1], x.guest(1, 2));
            Check.due("not the other's", 50, x.guest(0, 2));
        }
        SaturdayKeep x = eight();
        Check.due("guest 7", 49, x.calm(7));
        Check.due("guest 0", 0, x.calm(0));
        for (int n : new int[] {LEAST, -1, 8, MOST}) {
            Check.outside("calm(" + n + ")", () -> x.calm(n));
        }
        acts(x, 2);
    }
}
