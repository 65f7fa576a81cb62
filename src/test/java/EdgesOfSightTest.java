/** The document's edges, sentence by sentence: who sees what, odds, whom to send, what to mend, where to go. */
public final class EdgesOfSightTest {
    private static final int LEAST = Integer.MIN_VALUE;
    private static final int MOST = Integer.MAX_VALUE;

    public static void main(String[] args) {
        odds();
        send();
        sent();
        leastAsBits();
        mend();
        shut();
        quiet();
        best();
        lodge();
        lodgeOfSevenAndEight();
        lodgeByTheFirstWay();
        rests();
        keenest();
        alike();
        line();
        well();
        pass();
        crowd();
        locked();
        mutual();
        Check.end("EdgesOfSightTest");
    }

    private static SaturdayKeep watchers(int n, int risk) {
        SaturdayKeep x = Check.with(Check.times(8, "guest wish " + risk + " at 0 doubt 50"));
        for (int g = n; g < 8; g++) {
            x.come(g, false);
        }
        return x;
    }

    private static void odds() {
        Check.says("ODDS: in how many ten thousandths (rounded down) it would be SEEN by somebody, if it was SATURDAY now"
                + " (each WATCHER by RISK of 10, each by himself).");
        Check.due("no guests", 0, new SaturdayKeep().odds());
        Check.due("none here", 0, watchers(0, 10).odds());
        Check.due("no RISK", 0, watchers(8, 0).odds());
        Check.due("one of 10", 10000, watchers(1, 10).odds());
        Check.due("eight of 10", 10000, watchers(8, 10).odds());
        int[] ofOne = {0, 1000, 1900, 2710, 3439, 4095, 4685, 5217, 5695};
        int[] ofNine = {0, 9000, 9900, 9990, 9999, 9999, 9999, 9999, 9999};
        for (int n = 0; n <= 8; n++) {
            Check.due(n + " of 1", ofOne[n], watchers(n, 1).odds());
            Check.due(n + " of 9", ofNine[n], watchers(n, 9).odds());
        }
        SaturdayKeep x = Check.with("guest wish 10 at 1 doubt 99;guest wish 3 at 0;day 2");
        Check.due("of WATCHERS alone, be it Saturday or not", 1000, x.odds());
        x.key(0, true);
        Check.due("one is sure", 10000, x.odds());
    }

    private static void send() {
        Check.says("SEND: the fewest GUESTS HERE to be sent away, so that THE BATH has no WATCHER: as bits.");
        Check.due("no guests", 0, new SaturdayKeep().send());
        Check.due("eight", 255, watchers(8, 0).send());
        Check.due("none here", 0, watchers(0, 10).send());
        SaturdayKeep x = Check.with(Check.times(7, "guest wish 1 at 4") + ";guest wish 0 at 7 key");
        Check.due("the last one, by key", 128, x.send());
        x.key(7, false);
        Check.due("none", 0, x.send());
    }

    private static void sent() {
        Check.says("SENT to Q (0 to 9999): the fewest GUESTS HERE to be sent away, so that ODDS are Q at most");
        SaturdayKeep x = watchers(8, 1);
        Check.due("just so many", 0, x.sent(5695));
        Check.due("one less", 1, x.sent(5694));
        Check.due("seven may stay", 1, x.sent(5217));
        Check.due("six may", 3, x.sent(5216));
        Check.due("one may", 127, x.sent(1000));
        Check.due("none may", 255, x.sent(999));
        Check.due("sent(0)", 255, x.sent(0));
        Check.due("sent(9999)", 0, x.sent(9999));
        Check.due("one who is sure", 1, watchers(1, 10).sent(9999));
        Check.due("two who are sure", 3, watchers(2, 10).sent(9999));
        Check.due("9999 by nines", 0, watchers(8, 9).sent(9999));
        Check.due("9998 by nines: three may stay", 31, watchers(8, 9).sent(9998));
        Check.due("without RISK all may stay", 0, watchers(8, 0).sent(0));
        Check.due("no guests", 0, new SaturdayKeep().sent(0));
        for (int q : new int[] {LEAST, -1, 10000, MOST}) {
            Check.wrong("sent(" + q + ")", () -> x.sent(q));
        }
    }

    private static void leastAsBits() {
        Check.says("of several sets the least as bits. MEND:");
        // {0, 3} and {1, 2} leave the same odds: 9 is more than 6.
        SaturdayKeep x = Check.with("guest wish 1 at 0 doubt 50;guest wish 7 at 0 doubt 50;guest wish 7 at 0 doubt 50;"
                + "guest wish 9 at 0 doubt 50");
        Check.due("all", 9919, x.odds());
        Check.due("by 9100", 6, x.sent(9100));
        Check.due("by 9099", 10, x.sent(9099));
        Check.due("by 9190", 8, x.sent(9190));
        x.come(1, false);
        Check.due("those here alone", 8, x.sent(7300));
        Check.due("two of them, the least as bits", 9, x.sent(7299));
        Check.due("two others", 12, x.sent(6999));
    }

    private static void mend() {
        Check.says("MEND: the fewest HOLES to be mended, so that no GUEST HERE SEES THE BATH by a HOLE alone"
                + " (his own ROOM, KEYS not looked at): how many.");
        Check.due("no guests", 0, Check.with("hole 1 0").mend());
        SaturdayKeep x = Check.with("bath 7");
        for (int room = 0; room < 8; room++) {
            Check.house(x, "guest wish 1 at " + room + (room % 2 == 0 ? " key" : ""));
            if (room != 7) {
                x.hole(room, 7, true);
            }
        }
        Check.due("all that there can be", 7, x.mend());
        x.come(0, false);
        x.come(6, false);
        Check.due("of those here", 5, x.mend());
        x.go(1, 7);
        Check.due("he of the bath's room needs no hole", 4, x.mend());
        x.go(2, 3);
        Check.due("two of one ROOM, one HOLE", 3, x.mend());
        SaturdayKeep y = Check.with("guest wish 1 at 1 key;guest wish 1 at 0;hole 0 1");
        Check.due("by key and by his own ROOM, no HOLE", 0, y.mend());
    }

    private static void shut() {
        Check.says("SHUT: the fewest ROOMS so that each HOLE is from or into one of them: of several sets the least as bits.");
        Check.due("no HOLES", 0, new SaturdayKeep().shut());
        Check.due("one: the lesser room", 1, Check.with("hole 7 0").shut());
        Check.due("one the other way", 1, Check.with("hole 0 7").shut());
        Check.due("of 6 and 7", 64, Check.with("hole 7 6").shut());
        Check.due("room 7", 128, Check.with("hole 7 6;hole 5 7").shut());
        Check.due("two: the least of four sets", 5, Check.with("hole 0 1;hole 2 3").shut());
        Check.due("four of four", 85, Check.with("hole 0 1;hole 3 2;hole 5 4;hole 6 7").shut());
        Check.due("not the least room, but fewer", 128, Check.with("hole 0 7;hole 1 7;hole 2 7;hole 7 3").shut());
        Check.due("a round of three: two of them", 3, Check.with("hole 0 1;hole 1 2;hole 2 0").shut());
        Check.due("the least of the same size", 6, Check.with("hole 0 1;hole 1 3;hole 2 4;hole 2 5").shut());
        SaturdayKeep all = new SaturdayKeep();
        for (int a = 0; a < 8; a++) {
            for (int b = 0; b < a; b++) {
                all.hole(a, b, true);
            }
        }
        Check.due("all but one", 127, all.shut());
    }

    private static void quiet() {
        Check.says("QUIET: ROOMS that have no WATCHER, as bits.");
        Check.due("no guests: all", 255, new SaturdayKeep().quiet());
        Check.due("none here: all", 255, watchers(0, 10).quiet());
        Check.due("all but his own", 127, Check.with("guest wish 1 at 7").quiet());
        Check.due("by key, over 7 and 0", 62, Check.with("guest wish 1 at 7 key;hole 7 6").quiet());
        SaturdayKeep x = new SaturdayKeep();
        for (int room = 0; room < 8; room++) {
            Check.due("those without", 255 & ~((1 << room) - 1), x.quiet());
            Check.house(x, "guest wish 1 at " + room);
        }
        Check.due("none", 0, x.quiet());
        Check.due("none, by three keys", 0, Check.with("guest wish 1 at 0 key;guest wish 1 at 3 key;guest wish 1 at 5 key").quiet());
    }

    private static void best() {
        Check.says("BEST BATH: the ROOM of the fewest WATCHERS (of several that of the least RISK of them together, then the least).");
        Check.due("no guests: the least", 0, new SaturdayKeep().best());
        StringBuilder text = new StringBuilder("guest wish 4 at 0");
        for (int room = 1; room < 8; room++) {
            text.append(";guest wish 4 at ").append(room);
        }
        SaturdayKeep x = Check.with(text.toString());
        Check.due("all alike: the least", 0, x.best());
        for (int g = 0; g < 7; g++) {
            x.come(g, false);
            Check.due("the least of those without", 0, x.best());
        }
        SaturdayKeep y = Check.with(text.toString().replace("wish 4 at 7", "wish 3 at 7"));
        Check.due("the least RISK", 7, y.best());
        SaturdayKeep z = Check.with(text.toString().replace("wish 4 at 7", "wish 3 at 7").replace("wish 4 at 5", "wish 2 at 5"));
        Check.due("of 1 and 1, rounded down, the least room", 5, z.best());
        SaturdayKeep w = Check.with(text.toString().replace("wish 4 at 3", "wish 10 at 3") + ";hole 0 1;hole 1 0;hole 2 4;hole 4 2;"
                + "hole 5 6;hole 6 7");
        w.hole(7, 5, true);
        Check.due("one of much rather than two of little", 3, w.best());
        for (int room = 0; room < 8; room++) {
            SaturdayKeep but = Check.with(text.toString());
            but.come(room, false);
            Check.due("the one without a WATCHER", room, but.best());
        }
    }

    private static void lodgings(SaturdayKeep x, int moves, int... rooms) {
        Check.due("how many", moves, x.lodge(-1));
        for (int k = 0; k < rooms.length; k++) {
            Check.due("the ROOM of " + k, rooms[k], x.lodge(k));
        }
        for (int k : new int[] {LEAST, -2, rooms.length, 8, MOST}) {
            Check.due("lodge(" + k + ")", -1, x.lodge(k));
        }
    }

    private static void lodge() {
        Check.says("LODGE: how many (k NONE), or the ROOM of the k-th GUEST HERE; NONE (also, if there is no such one).");
        lodgings(new SaturdayKeep(), 0);
        lodgings(watchers(0, 1), 0);
        lodgings(Check.with("guest wish 1 at 0"), 1, 1);
        lodgings(Check.with("guest wish 1 at 1"), 0, 1);
        lodgings(Check.with("guest wish 1 at 7;bath 7"), 1, 0);
        lodgings(Check.with("guest wish 1 at 1 key"), 1, 2);
        lodgings(Check.with("guest wish 1 at 7 key"), 1, 2);
        lodgings(Check.with("guest wish 1 at 1;hole 1 0;hole 2 0"), 1, 3);
        lodgings(Check.with("guest wish 1 at 0;bath 4"), 0, 0);
        lodgings(Check.with("guest wish 1 at 7 key;bath 4"), 0, 7);
        SaturdayKeep last = Check.with(Check.times(8, "guest wish 1 at 6"));
        for (int g = 0; g < 7; g++) {
            last.come(g, false);
        }
        lodgings(last, 0, 6);
        last.key(7, true);
        last.bath(7);
        lodgings(last, 1, 1);
        SaturdayKeep x = Check.with(Check.times(3, "guest wish 1 at 5"));
        lodgings(x, 2, 1, 2, 5);
        x.come(1, false);
        lodgings(x, 1, 1, 5);
        x.come(0, false);
        lodgings(x, 0, 5);
        Check.due("nobody goes", 5, x.guest(0, 0));
        Check.due("no act", 2, x.count(15));
    }

    private static void lodgeOfSevenAndEight() {
        Check.says("LODGE: GUESTS HERE to be put into ROOMS, each into any, no two into one, so that none of them SEES THE BATH"
                + " (HOLES, KEYS as they are)");
        SaturdayKeep x = Check.with(Check.times(7, "guest wish 1 at 0"));
        lodgings(x, 7, 1, 2, 3, 4, 5, 6, 7);
        Check.house(x, "guest wish 1 at 7");
        lodgings(x, -1);
        for (int k = 0; k < 8; k++) {
            Check.due("eight: none", -1, x.lodge(k));
        }
        x.come(7, false);
        x.hole(4, 0, true);
        lodgings(x, -1);
        x.come(6, false);
        lodgings(x, 6, 1, 2, 3, 5, 6, 7);
        x.key(0, true);
        lodgings(x, 6, 2, 1, 3, 5, 6, 7);
        x.key(1, true);
        x.key(2, true);
        x.key(3, true);
        lodgings(x, 6, 2, 3, 5, 6, 1, 7);
        x.key(4, true);
        lodgings(x, -1);
        SaturdayKeep one = Check.with("guest wish 1 at 3");
        for (int room = 1; room < 8; room++) {
            one.hole(room, 0, true);
        }
        lodgings(one, -1);
        Check.due("nowhere", -1, one.lodge(0));
    }

    private static void lodgeByTheFirstWay() {
        Check.says("the fewest GUESTS who must go to another ROOM: how many; the ROOM of the k-th GUEST HERE (by numbers, from 0 on)"
                + " in the first such way (GUEST by GUEST the least ROOM); none.");
        lodgings(Check.with("guest wish 1 at 1;guest wish 1 at 1"), 1, 1, 2);
        lodgings(Check.with("guest wish 1 at 2;guest wish 1 at 2"), 1, 1, 2);
        lodgings(Check.with("guest wish 1 at 0;guest wish 1 at 1;guest wish 1 at 2"), 1, 3, 1, 2);
        lodgings(Check.with("guest wish 1 at 3;guest wish 1 at 0;guest wish 1 at 1"), 1, 3, 2, 1);
        lodgings(Check.with("guest wish 1 at 7;guest wish 1 at 6;guest wish 1 at 5"), 0, 7, 6, 5);
    }

    private static void rests() {
        Check.says("Choices (2 times the host's and the GUEST's) from which neither would have more by the other one: as bits.");
        Check.says("(Of one who is no WATCHER: looking is never SEEN, and loses 3.)");
        for (int wish = 0; wish <= 10; wish++) {
            SaturdayKeep x = Check.with("guest wish " + wish + " at 0 doubt 50;guest wish " + wish + " at 1");
            Check.due("a WATCHER of wish " + wish, wish == 0 ? 2 : 0, x.rests(0));
            Check.due("no WATCHER of wish " + wish, 2, x.rests(1));
            x.key(1, true);
            Check.due("by key of wish " + wish, wish == 0 ? 2 : 0, x.rests(1));
            x.come(0, false);
            Check.due("one away", 2, x.rests(0));
        }
        SaturdayKeep eight = watchers(8, 5);
        Check.due("guest 7", 0, eight.rests(7));
        Check.outside("guest 8", () -> eight.rests(8));
        Check.outside("guest -1", () -> eight.rests(-1));
        Check.outside("none", () -> new SaturdayKeep().rests(0));
    }

    private static void keenest() {
        Check.says("KEENEST: the GUEST HERE of the greatest RISK (of several the least; none).");
        Check.due("no guests", -1, new SaturdayKeep().keenest());
        Check.due("none here", -1, watchers(0, 9).keenest());
        Check.due("all of no RISK: the least", 0, watchers(8, 0).keenest());
        SaturdayKeep x = Check.with(Check.times(7, "guest wish 9 at 0") + ";guest wish 5 at 0 doubt 50");
        Check.due("5 is more than 4", 7, x.keenest());
        x.calm(7);
        Check.due("2 is less", 0, x.keenest());
        x.come(0, false);
        Check.due("of those here the least", 1, x.keenest());
        x.come(1, false);
        x.come(0, true);
        Check.due("the least again", 0, x.keenest());
    }

    private static void alike() {
        Check.says("ALIKE: pairs of GUESTS of the same WISH and ROOM.");
        Check.due("no guests", 0, new SaturdayKeep().alike());
        Check.due("one", 0, Check.with("guest wish 1 at 1").alike());
        Check.due("two", 1, Check.with("guest wish 1 at 1;guest wish 1 at 1 doubt 9 key").alike());
        Check.due("another wish", 0, Check.with("guest wish 1 at 1;guest wish 2 at 1").alike());
        Check.due("another room", 0, Check.with("guest wish 1 at 1;guest wish 1 at 2").alike());
        Check.due("those who are none are not alike", 0, Check.with("guest wish 0 at 0").alike());
        Check.due("eight", 28, watchers(8, 3).alike());
    }

    private static void line() {
        Check.says("LINE from one ROOM to another one: the fewest HOLES through which one can pass on from the one to the other (0 for the same); none.");
        SaturdayKeep x = new SaturdayKeep();
        for (int room = 0; room < 8; room++) {
            Check.due("the same", 0, x.line(room, room));
            Check.due("without HOLES", -1, x.line(room, (room + 1) % 8));
        }
        for (int room = 1; room < 8; room++) {
            x.hole(room - 1, room, true);
        }
        Check.due("seven HOLES", 7, x.line(0, 7));
        Check.due("six", 6, x.line(1, 7));
        Check.due("not back", -1, x.line(7, 0));
        x.hole(7, 0, true);
        Check.due("round", 1, x.line(7, 0));
        Check.due("nearly all round", 7, x.line(7, 6));
        x.hole(0, 6, true);
        Check.due("a shorter one", 2, x.line(0, 7));
        x.hole(1, 7, true);
        Check.due("two of the same length", 2, x.line(0, 7));
        SaturdayKeep three = Check.with("hole 0 1;hole 0 2;hole 0 3;hole 1 4;hole 2 4;hole 4 5;hole 4 0");
        Check.due("by two of three", 2, three.line(0, 4));
        Check.due("and beyond", 3, three.line(0, 5));
        Check.due("for the same, not round", 0, x.line(3, 3));
    }

    private static void well() {
        Check.says("WELL SEEN: the ROOM into which the most HOLES go (of several the least; none without HOLES).");
        SaturdayKeep x = new SaturdayKeep();
        Check.due("without HOLES", -1, x.well());
        x.hole(0, 7, true);
        Check.due("one", 7, x.well());
        x.hole(7, 0, true);
        Check.due("of two the least", 0, x.well());
        x.hole(6, 7, true);
        Check.due("two of them", 7, x.well());
        for (int room = 0; room < 8; room++) {
            if (room != 3) {
                x.hole(room, 3, true);
            }
        }
        Check.due("seven of them", 3, x.well());
        SaturdayKeep y = Check.with("hole 1 2");
        y.hole(1, 2, false);
        Check.due("mended", -1, y.well());
    }

    private static void pass() {
        Check.says("PASS from one ROOM to another one: the fewest steps round by ROOMS in which no GUEST HERE is"
                + " (the first one not looked at, the last one is; 0 for the same); none.");
        SaturdayKeep x = Check.with("guest wish 1 at 1;guest wish 1 at 7");
        Check.due("for the same", 0, x.pass(0, 0));
        Check.due("for the same, with one in it", 0, x.pass(1, 1));
        Check.due("both ways barred", -1, x.pass(0, 4));
        Check.due("into one with a guest", -1, x.pass(0, 1));
        Check.due("into one with a guest", -1, x.pass(6, 7));
        Check.due("from one with a guest", 1, x.pass(1, 2));
        Check.due("from one with a guest to none", 1, x.pass(1, 0));
        Check.due("between both, over 0", 1, x.pass(7, 0));
        x.come(1, false);
        Check.due("six steps down, over 0", 6, x.pass(0, 2));
        Check.due("six steps up, over 7", 6, x.pass(2, 0));
        Check.due("one step down, over 0", 1, x.pass(0, 7));
        x.come(0, false);
        Check.due("none here bars", 4, x.pass(0, 4));
        Check.due("the shorter way", 3, x.pass(6, 1));
        Check.due("the shorter way", 3, x.pass(1, 6));
        SaturdayKeep full = new SaturdayKeep();
        for (int room = 0; room < 8; room++) {
            Check.house(full, "guest wish 1 at " + room);
        }
        Check.due("no free ROOM", -1, full.pass(0, 1));
        Check.due("for the same", 0, full.pass(7, 7));
        full.come(1, false);
        Check.due("one free ROOM", 1, full.pass(0, 1));
        Check.due("not from farther off", -1, full.pass(7, 1));
    }

    private static void crowd() {
        Check.says("CROWD: the ROOM of the most GUESTS HERE (of several the least; none).");
        Check.due("no guests", -1, new SaturdayKeep().crowd());
        Check.due("none here", -1, watchers(0, 1).crowd());
        Check.due("eight in 0", 0, watchers(8, 1).crowd());
        SaturdayKeep x = Check.with("guest wish 1 at 7;guest wish 1 at 6;guest wish 1 at 7");
        Check.due("two in 7", 7, x.crowd());
        x.come(0, false);
        Check.due("of one and one the least", 6, x.crowd());
        x.come(1, false);
        Check.due("one", 7, x.crowd());
    }

    private static void locked() {
        Check.says("LOCKED: WATCHERS of THE BATH who would be none without KEY, as bits.");
        Check.due("no guests", 0, new SaturdayKeep().locked());
        SaturdayKeep x = Check.with(Check.times(4, "guest wish 1 at 1 key") + ";" + Check.times(4, "guest wish 1 at 7 key"));
        Check.due("all eight", 255, x.locked());
        x.key(7, false);
        Check.due("without a key", 127, x.locked());
        x.come(0, false);
        Check.due("one away", 126, x.locked());
        x.hole(7, 0, true);
        Check.due("by a HOLE, too", 14, x.locked());
        x.go(1, 0);
        Check.due("by his own ROOM, too", 12, x.locked());
        x.bath(7);
        Check.due("7 is beside 0", 2, x.locked());
    }

    private static void mutual() {
        Check.says("MUTUAL: pairs of GUESTS HERE of whom each SEES the ROOM of the other one: how many.");
        Check.due("no guests", 0, new SaturdayKeep().mutual());
        Check.due("one", 0, watchers(1, 1).mutual());
        Check.due("eight in one ROOM", 28, watchers(8, 1).mutual());
        Check.due("seven", 21, watchers(7, 1).mutual());
        SaturdayKeep x = Check.with("guest wish 1 at 7 key;guest wish 1 at 0");
        Check.due("one sees the other alone", 0, x.mutual());
        x.key(1, true);
        Check.due("both, over 7 and 0", 1, x.mutual());
        x.key(1, false);
        x.hole(0, 7, true);
        Check.due("by key and by HOLE", 1, x.mutual());
        x.come(1, false);
        Check.due("of those here", 0, x.mutual());
    }
}
