/** Promises 27 to 35, 40 to 46 and 50: who sees what, and what is to be done about it. */
public final class SeeingTest {
    private static final String HOUSE = "guest wish 8 at 2 doubt 60;guest wish 5 at 1 key;guest wish 10 at 4;guest wish 8 at 2 doubt 20;"
            + "hole 2 0;hole 4 5;hole 5 0";

    public static void main(String[] args) {
        odds();
        send();
        sent();
        mend();
        shut();
        quiet();
        best();
        lodge();
        rests();
        keenest();
        alike();
        line();
        well();
        pass();
        crowd();
        locked();
        mutual();
        Check.end("SeeingTest");
    }

    private static void odds() {
        SaturdayKeep x = Check.with(HOUSE);
        Check.due("odds", 9040, x.odds());
        x.come(0, false);
        Check.due("without 0", 5200, x.odds());
        x.come(1, false);
        Check.due("3 alone", 4000, x.odds());
        x.come(3, false);
        Check.due("nobody", 0, x.odds());
        Check.due("sure", 10000, Check.with("guest wish 10 at 0 doubt 50").odds());
        Check.due("rounded down", 9999, Check.with(Check.times(8, "guest wish 9 at 0 doubt 50")).odds());
        Check.due("1 - 0.9^8", 5695, Check.with(Check.times(8, "guest wish 2 at 0")).odds());
        Check.due("1 - 0.7^5", 8319, Check.with(Check.times(5, "guest wish 3 at 0 doubt 99")).odds());
    }

    private static void send() {
        SaturdayKeep x = Check.with(HOUSE);
        Check.due("send", 11, x.send());
        x.come(0, false);
        Check.due("those here alone", 10, x.send());
        x.bath(6);
        Check.due("nobody", 0, x.send());
    }

    private static void sent() {
        SaturdayKeep x = Check.with(HOUSE);
        Check.due("sent(9999)", 0, x.sent(9999));
        Check.due("sent(9039)", 1, x.sent(9039));
        Check.due("sent(5200)", 1, x.sent(5200));
        Check.due("sent(5199)", 3, x.sent(5199));
        Check.due("sent(3999)", 9, x.sent(3999));
        Check.due("sent(1999)", 11, x.sent(1999));
        Check.due("sent(0)", 11, x.sent(0));
        Check.wrong("sent(-1)", () -> x.sent(-1));
        Check.wrong("sent(10000)", () -> x.sent(10000));
        SaturdayKeep alike = Check.with(Check.times(4, "guest wish 4 at 0"));
        Check.due("the least as bits", 1, alike.sent(5000));
        Check.due("the least as bits", 3, alike.sent(4000));
        alike.come(0, false);
        Check.due("one away is sent no more", 2, alike.sent(4000));
        SaturdayKeep sure = Check.with("guest wish 1 at 0;guest wish 10 at 0 doubt 50");
        Check.due("he of no risk may stay", 2, sure.sent(0));
        Check.due("not by 9999", 2, sure.sent(9999));
    }

    private static void mend() {
        SaturdayKeep x = Check.with(HOUSE);
        Check.due("two of one room by one hole", 1, x.mend());
        x.go(2, 5);
        Check.due("two holes", 2, x.mend());
        x.key(0, true);
        x.go(1, 7);
        x.hole(7, 0, true);
        Check.due("a key is not looked at", 3, x.mend());
        x.come(1, false);
        Check.due("of those here", 2, x.mend());
        x.go(2, 0);
        Check.due("nor his own room", 1, x.mend());
    }

    private static void shut() {
        Check.due("no hole", 0, new SaturdayKeep().shut());
        Check.due("two rooms", 17, Check.with(HOUSE).shut());
        Check.due("both ways", 1, Check.with("hole 0 7;hole 7 0").shut());
        Check.due("the middle", 8, Check.with("hole 3 7;hole 0 3;hole 3 1;hole 2 3").shut());
        Check.due("a round of eight", 85,
                Check.with("hole 0 1;hole 1 2;hole 2 3;hole 3 4;hole 4 5;hole 5 6;hole 6 7;hole 7 0").shut());
        Check.due("from room 0", 1, Check.with("hole 0 3;hole 0 5").shut());
        SaturdayKeep all = new SaturdayKeep();
        for (int a = 0; a < 8; a++) {
            for (int b = 0; b < 8; b++) {
                if (a != b) {
                    all.hole(a, b, true);
                }
            }
        }
        Check.due("all but one", 127, all.shut());
    }

    private static void quiet() {
        Check.due("nobody", 255, new SaturdayKeep().quiet());
        SaturdayKeep x = Check.with(HOUSE);
        Check.due("quiet", 200, x.quiet());
        x.come(1, false);
        Check.due("without 1", 202, x.quiet());
        Check.due("of guest 0 alone", 254, Check.with("guest wish 1 at 0").quiet());
    }

    private static void best() {
        Check.due("nobody", 0, new SaturdayKeep().best());
        Check.due("best", 3, Check.with(HOUSE).best());
        SaturdayKeep x = Check.with("guest wish 8 at 0;guest wish 6 at 1;guest wish 4 at 2;guest wish 6 at 3 doubt 50;"
                + "guest wish 3 at 4;guest wish 2 at 5;guest wish 3 at 6;guest wish 9 at 7");
        Check.due("the least risk, the least room", 4, x.best());
        x.come(3, false);
        Check.due("the fewest", 3, x.best());
        SaturdayKeep y = Check.with("guest wish 2 at 0;guest wish 2 at 0;guest wish 10 at 1;guest wish 10 at 2;hole 1 3;hole 1 4;"
                + "hole 1 5;hole 2 6;hole 2 7");
        Check.due("one of great risk rather than two of little", 1, y.best());
    }

    private static void lodgings(SaturdayKeep x, int moves, int... rooms) {
        Check.due("lodge(NONE)", moves, x.lodge(-1));
        for (int k = 0; k < rooms.length; k++) {
            Check.due("lodge(" + k + ")", rooms[k], x.lodge(k));
        }
        Check.due("no such guest here", -1, x.lodge(rooms.length));
        Check.due("no such guest", -1, x.lodge(-2));
        Check.due("no such guest", -1, x.lodge(Integer.MAX_VALUE));
    }

    private static void lodge() {
        lodgings(new SaturdayKeep(), 0);
        SaturdayKeep x = Check.with(HOUSE);
        lodgings(x, 3, 1, 3, 4, 6);
        x.come(1, false);
        lodgings(x, 2, 1, 4, 3);
        Check.due("nobody went", 2, x.guest(0, 0));
        lodgings(Check.with("guest wish 1 at 5;guest wish 1 at 3;guest wish 1 at 7"), 0, 5, 3, 7);
        // The first one might stay, but then so could no other: all of three must find rooms 6 and 7 and 1.
        lodgings(Check.with("guest wish 1 at 3;guest wish 1 at 3;hole 2 0;hole 4 0"), 1, 1, 3);
        lodgings(Check.with("guest wish 1 at 1 key;guest wish 1 at 1;guest wish 1 at 0"), 2, 2, 1, 3);
        SaturdayKeep seven = Check.with(Check.times(7, "guest wish 1 at 7"));
        lodgings(seven, 6, 1, 2, 3, 4, 5, 6, 7);
        seven.hole(3, 0, true);
        lodgings(seven, -1);
        Check.due("none", -1, seven.lodge(0));
        lodgings(Check.with(Check.times(8, "guest wish 1 at 7")), -1);
        lodgings(Check.with(Check.times(6, "guest wish 1 at 4 key")), -1);
        lodgings(Check.with(Check.times(5, "guest wish 1 at 4 key")), 4, 2, 3, 4, 5, 6);
        lodgings(Check.with("guest wish 1 at 4 key;bath 7"), 0, 4);
        lodgings(Check.with("guest wish 1 at 0 key;bath 7"), 1, 1);
    }

    private static void rests() {
        SaturdayKeep x = Check.with("guest wish 1 at 0;guest wish 0 at 0;guest wish 9 at 1;guest wish 9 at 1 key");
        Check.due("a watcher who wishes", 0, x.rests(0));
        Check.due("a watcher without a wish", 2, x.rests(1));
        Check.due("no watcher", 2, x.rests(2));
        Check.due("a watcher by key", 0, x.rests(3));
        x.come(0, false);
        Check.due("one away is no watcher", 2, x.rests(0));
        Check.outside("rests(4)", () -> x.rests(4));
        Check.outside("rests(-1)", () -> x.rests(-1));
    }

    private static void keenest() {
        Check.due("nobody", -1, new SaturdayKeep().keenest());
        SaturdayKeep x = Check.with("guest wish 7 at 0;guest wish 10 at 1;guest wish 5 at 1 doubt 50");
        Check.due("the least of several", 1, x.keenest());
        x.come(1, false);
        Check.due("of those here", 2, x.keenest());
        x.calm(2);
        Check.due("by risk", 0, x.keenest());
        x.come(0, false);
        x.come(2, false);
        Check.due("nobody here", -1, x.keenest());
        Check.due("of no risk", 0, Check.with("guest wish 0 at 0;guest wish 1 at 0").keenest());
    }

    private static void alike() {
        Check.due("nobody", 0, new SaturdayKeep().alike());
        SaturdayKeep x = Check.with("guest wish 7 at 0;guest wish 7 at 0 key;guest wish 7 at 1;guest wish 6 at 0;guest wish 7 at 0 doubt 9");
        Check.due("three pairs", 3, x.alike());
        x.go(2, 0);
        Check.due("six pairs", 6, x.alike());
        x.come(2, false);
        Check.due("away or not", 6, x.alike());
    }

    private static void line() {
        SaturdayKeep x = Check.with("hole 0 1;hole 1 2;hole 2 3;hole 3 4;hole 4 5;hole 5 6;hole 6 7;hole 2 6;hole 7 5");
        int[] due = {0, 1, 2, 3, 4, 5, 3, 4};
        for (int room = 0; room < 8; room++) {
            Check.due("line(0, " + room + ")", due[room], x.line(0, room));
        }
        Check.due("no way back", -1, x.line(1, 0));
        Check.due("round", 2, x.line(5, 7));
        x.hole(2, 6, false);
        Check.due("seven holes", 7, x.line(0, 7));
        Check.due("to itself", 0, x.line(4, 4));
        Check.outside("line(8, 0)", () -> x.line(8, 0));
        Check.outside("line(0, 8)", () -> x.line(0, 8));
        Check.outside("line(-1, 0)", () -> x.line(-1, 0));
        Check.outside("line(0, -1)", () -> x.line(0, -1));
    }

    private static void well() {
        Check.due("no holes", -1, new SaturdayKeep().well());
        Check.due("the most", 0, Check.with(HOUSE).well());
        Check.due("into, not from", 6, Check.with("hole 1 6;hole 1 7;hole 1 0;hole 2 6").well());
        Check.due("the least of several", 3, Check.with("hole 1 6;hole 1 3;hole 2 3;hole 2 6").well());
        Check.due("room 7", 7, Check.with("hole 1 7").well());
    }

    private static void pass() {
        SaturdayKeep x = new SaturdayKeep();
        int[] due = {0, 1, 2, 3, 4, 3, 2, 1};
        for (int room = 0; room < 8; room++) {
            Check.due("pass(0, " + room + ")", due[room], x.pass(0, room));
            Check.due("pass(5, " + (5 + room) % 8 + ")", due[room], x.pass(5, (5 + room) % 8));
        }
        SaturdayKeep y = Check.with("guest wish 1 at 1;guest wish 1 at 6");
        Check.due("round the other way is barred", -1, y.pass(0, 2));
        Check.due("from beyond", 3, y.pass(2, 5));
        Check.due("the last one is looked at", -1, y.pass(2, 1));
        Check.due("the first one is not", 4, y.pass(1, 5));
        Check.due("for the same", 0, y.pass(1, 1));
        y.come(0, false);
        Check.due("one away bars nothing", 2, y.pass(0, 2));
        Check.due("seven round", 5, y.pass(0, 5));
        y.go(0, 7);
        y.come(1, false);
        Check.due("the short way", 3, y.pass(0, 5));
        Check.outside("pass(8, 8)", () -> x.pass(8, 8));
        Check.outside("pass(0, 8)", () -> x.pass(0, 8));
        Check.outside("pass(-1, 0)", () -> x.pass(-1, 0));
        Check.outside("pass(0, -1)", () -> x.pass(0, -1));
    }

    private static void crowd() {
        Check.due("nobody", -1, new SaturdayKeep().crowd());
        SaturdayKeep x = Check.with(HOUSE);
        Check.due("crowd", 2, x.crowd());
        x.come(0, false);
        Check.due("the least of several", 1, x.crowd());
        Check.due("in room 0", 0, Check.with("guest wish 1 at 0").crowd());
        x.come(1, false);
        x.come(2, false);
        x.come(3, false);
        Check.due("nobody here", -1, x.crowd());
    }

    private static void locked() {
        SaturdayKeep x = Check.with("guest wish 1 at 1 key;guest wish 1 at 7 key;guest wish 1 at 0 key;guest wish 1 at 1;"
                + "guest wish 1 at 6 key;guest wish 1 at 3 key;hole 3 0");
        Check.due("locked", 3, x.locked());
        x.hole(1, 0, true);
        Check.due("he would see by the hole", 2, x.locked());
        x.come(1, false);
        Check.due("one away", 0, x.locked());
        Check.due("nobody", 0, new SaturdayKeep().locked());
    }

    private static void mutual() {
        Check.due("nobody", 0, new SaturdayKeep().mutual());
        SaturdayKeep x = Check.with("guest wish 1 at 2;guest wish 1 at 2;guest wish 1 at 5;guest wish 1 at 3 key;hole 5 2;hole 2 3");
        Check.due("of one room, by key and hole", 3, x.mutual());
        x.hole(2, 5, true);
        Check.due("by two holes", 5, x.mutual());
        x.come(0, false);
        Check.due("of those here", 2, x.mutual());
    }
}
