/** Promises 1 to 6: a new object, the tape, texts of the house, the law, the first wrong byte. */
public final class TextsTest {
    public static void main(String[] args) {
        newObject();
        feed();
        end();
        houseLines();
        houseFaults();
        houseTooMany();
        wrongHouseStays();
        lawLines();
        lawValues();
        lawFaults();
        lawDepth();
        lawStays();
        fault();
        Check.end("TextsTest");
    }

    private static void newObject() {
        SaturdayKeep x = new SaturdayKeep();
        int[] due = {0, 0, -1, 0, 0, 0, 1, 100, 0, 0, 0, 0, 0, 0, 0, 0, -1};
        for (int what = 0; what < due.length; what++) {
            Check.due("new count(" + what + ")", due[what], x.count(what));
        }
        Check.due("new shift 0", 0, x.calendar(0, false));
        Check.due("new shift 1", 3, x.calendar(1, false));
        Check.due("new fault", -1, x.fault());
        Check.due("new seed", 1, x.seed(1));
        Check.no("new undo", x.undo());
        Check.no("new back", x.back());
        Check.due("NONE", -1, SaturdayKeep.NONE);
    }

    private static void feed() {
        SaturdayKeep x = new SaturdayKeep();
        for (int i = 1; i <= 20; i++) {
            Check.due("feed " + i, 20 * i, x.feed(0x20202020, 0x20202020, 0x20202020, 0x20202020, 0x20202020));
        }
        Check.due("feed beyond 400", -1, x.feed(0, 0, 0, 0, 0));
        Check.yes("nothing came", x.end(400));
        Check.no("400 alone", x.end(401));
        Check.yes("cut to 381", x.end(381));
        Check.due("feed to 401", -1, x.feed(0, 0, 0, 0, 0));
        Check.yes("cut to 380", x.end(380));
        Check.due("feed to 400", 400, x.feed(0x20202020, 0x20202020, 0x20202020, 0x20202020, 0x20202020));
        Check.due("400 blanks are a text", 1, x.house());
        Check.due("the tape is used up", 20, x.feed(0, 0, 0, 0, 0));
        x.end(0);
        // "bath 5; bore 77;day1" byte by byte, the highest of each number first
        x.feed(0x62617468, 0x20353b20, 0x626f7265, 0x2037373b, 0x64617931);
        Check.due("bytes in their order", 2, x.house());
        Check.due("bath", 5, x.count(4));
        Check.due("bore", 77, x.count(9));
        Check.due("day", 1, x.count(3));
        x.feed(0xffffffff, 0, 0, 0, 0);
        Check.wrong("bytes above 127", x::house);
        Check.due("at 0", 0, x.fault());
    }

    private static void end() {
        SaturdayKeep x = new SaturdayKeep();
        Check.yes("end(0) of none", x.end(0));
        Check.no("end(1) of none", x.end(1));
        Check.no("end(-1)", x.end(-1));
        Check.no("end of the least", x.end(Integer.MIN_VALUE));
        Check.tape(x, "bath 3;bath 4");
        Check.no("end(14)", x.end(14));
        Check.no("end(-1)", x.end(-1));
        Check.yes("end(13)", x.end(13));
        Check.yes("end(6)", x.end(6));
        Check.no("the rest is gone", x.end(7));
        x.house();
        Check.due("the first bytes alone", 3, x.count(4));
        Check.tape(x, "bath 7");
        x.end(5);
        x.feed(0x31202020, 0, 0, 0, 0);
        x.end(9);
        x.house();
        Check.due("fed behind what was left", 1, x.count(4));
    }

    private static void houseLines() {
        SaturdayKeep x = new SaturdayKeep();
        Check.due("empty", 1, Check.house(x, ""));
        Check.due("blanks", 2, Check.house(x, "   "));
        Check.due("lines", 3, Check.house(x, "  guest wish 10 at 7 doubt 99 key ;guest wish0at0;guest wish 3 at 2 key; "
                + "guest wish 4 at 5 doubt 050"));
        int[][] guests = {{7, 10, 99, 1, 1}, {0, 0, 0, 0, 1}, {2, 3, 0, 1, 1}, {5, 4, 50, 0, 1}};
        for (int g = 0; g < guests.length; g++) {
            for (int what = 0; what < 5; what++) {
                Check.due("guest(" + g + ", " + what + ")", guests[g][what], x.guest(g, what));
            }
        }
        Check.due("guests", 4, x.count(0));
        Check.house(x, "hole 0 7;hole 7 0;hole 7 0;bath 7;shift 0 6;shift 1 0;keep 1;masons 9;stones 999;bore 100;day 999");
        Check.due("holes", 2, x.count(11));
        Check.due("hole from 0", 128, x.room(0, 0));
        Check.due("hole from 7", 1, x.room(7, 0));
        Check.due("bath", 7, x.count(4));
        Check.due("shift 0", 6, x.calendar(0, false));
        Check.due("shift 1", 0, x.calendar(1, false));
        Check.due("keep", 1, x.count(5));
        Check.due("masons", 9, x.count(6));
        Check.due("stones", 999, x.count(7));
        Check.due("bore", 100, x.count(9));
        Check.due("day", 999, x.count(3));
        Check.house(x, "masons 0;stones 0;bore 0;day 0;keep 0;bath 0;masons 005");
        Check.due("the later line", 5, x.count(6));
        Check.due("no stones", 0, x.count(7));
        Check.due("day 0", 0, x.count(3));
    }

    private static void houseFault(String text, int at) {
        SaturdayKeep x = new SaturdayKeep();
        Check.wrong("house " + text, () -> Check.house(x, text));
        Check.due("fault of " + text, at, x.fault());
        Check.due("no text by " + text, 0, x.count(1));
        Check.yes("the tape is used up by " + text, !x.end(1));
    }

    private static void houseFaults() {
        houseFault(";", 0);
        houseFault("  ;", 2);
        houseFault("bath 1;", 7);
        houseFault("bath 1;  ", 9);
        houseFault("bath 1;;bath 2", 7);
        houseFault("bath 1 2", 7);
        houseFault("bath 1 bath 2", 7);
        houseFault("bath", 4);
        houseFault("bath ", 5);
        houseFault("bath x", 5);
        houseFault("baths 1", 0);
        houseFault("Bath 1", 0);
        houseFault("bathz 1", 0);
        houseFault("batha 1", 0);
        houseFault("beth 1", 0);
        houseFault("hath 1", 0);
        houseFault("bath\t1", 4);
        houseFault("bath -1", 5);
        houseFault("bath 0001", 5);
        houseFault("bath 8", 5);
        houseFault("bath 1x", 6);
        houseFault("7", 0);
        houseFault("doubt 3", 0);
        houseFault("calm 3", 0);
        houseFault("guest", 5);
        houseFault("guest wish", 10);
        houseFault("guest wish 3", 12);
        houseFault("guest wish 3 at", 15);
        houseFault("guest wish 11 at 3", 11);
        houseFault("guest wish 3 at 8", 16);
        houseFault("guest wish 3 at 3 doubt", 23);
        houseFault("guest wish 3 at 3 doubt 100", 24);
        houseFault("guest wish 3 at 3 key doubt 3", 22);
        houseFault("guest wish 3 at 3 key key", 22);
        houseFault("guest wish 3 at 3 doubt 3 doubt 3", 26);
        houseFault("guest wish 3 at 3 doubted 3", 18);
        houseFault("guest wish 3 at 3 bath 1", 18);
        houseFault("guest wish 3 at 3keys", 17);
        houseFault("hole 3", 6);
        houseFault("hole 3 3", 7);
        houseFault("hole 3 03", 7);
        houseFault("hole 33", 5);
        houseFault("hole 8 3", 5);
        houseFault("hole 3 8", 7);
        houseFault("hole 3 ; 4", 7);
        houseFault("shift 2 3", 6);
        houseFault("shift 1 7", 8);
        houseFault("shift 1", 7);
        houseFault("keep 2", 5);
        houseFault("masons 10", 7);
        houseFault("stones 1000", 7);
        houseFault("bore 101", 5);
        houseFault("day 1000", 4);
        houseFault("bath 1\u0000", 6);
        houseFault("bath 1;\u00ff", 7);
    }

    private static void houseTooMany() {
        SaturdayKeep x = new SaturdayKeep();
        Check.due("14 lines", 1, Check.house(x, Check.times(14, "bath 1")));
        Check.wrong("15 lines", () -> Check.house(x, Check.times(14, "bath 1") + "; bath 1"));
        Check.due("the 15th line's first word", 99, x.fault());
        Check.wrong("14 lines and ;", () -> Check.house(x, Check.times(14, "bath 1") + ";"));
        Check.due("text's length", 98, x.fault());
        Check.house(x, Check.times(7, "guest wish 1 at 1"));
        Check.due("7 guests", 7, x.count(0));
        Check.wrong("two guests more", () -> Check.house(x, "bath 2;guest wish 1 at 1 key; guest wish 11"));
        Check.due("the 9th guest's first word", 30, x.fault());
        Check.due("none of them stays", 7, x.count(0));
        Check.due("nor the bath", 1, x.count(4));
        Check.due("the 8th", 3, Check.house(x, "guest wish 1 at 1"));
        Check.wrong("the 9th", () -> Check.house(x, "guest"));
        Check.due("his first word", 0, x.fault());
        for (int n = 4; n <= 12; n++) {
            Check.due("text " + n, n, Check.house(x, "day " + n));
        }
        Check.wrong("a wrong 13th", () -> Check.house(x, "day 13;"));
        Check.due("its fault", 7, x.fault());
        x.go(0, 3);
        Check.thrown("a 13th", UnsupportedOperationException.class, () -> Check.house(x, "day 13"));
        Check.due("it was read", -1, x.fault());
        Check.due("twelve texts", 12, x.count(1));
        Check.due("the 12th's day", 12, x.count(3));
        Check.no("the tape is used up", x.end(1));
        Check.due("acts are still remembered", 1, x.count(15));
    }

    private static void wrongHouseStays() {
        SaturdayKeep x = Check.with("guest wish 3 at 3");
        x.go(0, 4);
        String wrong = "guest wish 3 at 3;hole 1 2;bath 5;shift 0 5;shift 1 5;keep 1;masons 5;stones 5;bore 5;day 5;x";
        Check.wrong(wrong, () -> Check.house(x, wrong));
        int[] due = {1, 1, -1, 0, 0, 0, 1, 100, 0, 0, 0, 0, 1, 0, 0, 1};
        for (int what = 0; what < due.length; what++) {
            Check.due("count(" + what + ") behind a wrong text", due[what], x.count(what));
        }
        Check.due("shift 0", 0, x.calendar(0, false));
        Check.due("shift 1", 3, x.calendar(1, false));
        Check.due("a guest", 4, x.guest(0, 0));
        Check.house(x, "");
        Check.due("a text: no act is remembered", 0, x.count(15));
    }

    private static void lawLines() {
        SaturdayKeep x = new SaturdayKeep();
        Check.due("empty law", 0, Check.law(x, ""));
        Check.due("blank law", 0, Check.law(x, "  "));
        Check.due("lines", 0, x.count(2));
        Check.due("one line", 1, Check.law(x, "doubt 30"));
        Check.due("twelve lines", 12, Check.law(x, Check.times(12, "calm 0 if eve or key")));
        Check.due("twelve lines", 12, x.count(2));
        Check.wrong("13 lines", () -> Check.law(x, Check.times(12, "doubt 1") + ";calm 1"));
        Check.due("the 13th line's first word", 96, x.fault());
        Check.due("the law before stays", 12, x.count(2));
        Check.due("in place of the one before", 2, Check.law(x, " doubt 1 ; calm 2 if week < 1 "));
    }

    private static void turns(int due, String law) {
        // Guest 1 in room 5 of wish 7 and doubt 60 with a key; two holes from there; day 33 is the eve of a Saturday.
        SaturdayKeep x = Check.with("guest wish 2 at 0;guest wish 7 at 5 doubt 60 key;hole 5 0;hole 5 1;hole 0 5;shift 0 0;day 33",
                law);
        Check.due("turns by " + law, due, x.guest(1, 6));
    }

    private static void lawValues() {
        turns(0, "");
        turns(7, "doubt 7");
        turns(-7, "calm 7");
        turns(3, "doubt 7;calm 5;doubt 1");
        turns(30, "doubt 30 if guest > 0 and guest < 2");
        turns(1, "doubt 1 if room > 4 and room < 6");
        turns(1, "doubt 1 if wish > 6 and wish < 8");
        turns(1, "doubt 1 if doubted > 59 and doubted < 61");
        turns(1, "doubt 1 if towers < 1");
        turns(1, "doubt 1 if holes > 1 and holes < 3");
        turns(1, "doubt 1 if week > 3 and week < 5");
        turns(1, "doubt 1 if key");
        turns(1, "doubt 1 if eve");
        turns(0, "doubt 1 if not key");
        turns(1, "doubt 1 if not not key");
        turns(0, "doubt 1 if 3 < 3");
        turns(0, "doubt 1 if 3 > 3");
        turns(1, "doubt 1 if 999 > 998");
        turns(1, "doubt 1 if room + wish + 1 > 12 and 14 > room+wish+1");
        turns(0, "doubt 1 if 5 < room");
        // "and" binds before "or", "not" before both
        turns(1, "doubt 1 if key or key and 1 < 0");
        turns(1, "doubt 1 if 1<0 and 1<0 or key");
        turns(0, "doubt 1 if (key or key) and 1 < 0");
        turns(1, "doubt 1 if not 1 < 0 or key");
        turns(0, "doubt 1 if not (1 < 0 or key)");
        turns(1, "doubt 1 if not 1 < 0 and key");
        turns(0, "doubt 1 if key and eve and 1 < 0");
        turns(2, "doubt 2 if 1 < 0 or 2 < 1 or eve and key and 1 < 2");
        turns(5, "doubt 5if key and(eve)and not(not key)or 1<0");
    }

    private static void lawFault(String text, int at) {
        SaturdayKeep x = new SaturdayKeep();
        Check.wrong("law " + text, () -> Check.law(x, text));
        Check.due("fault of " + text, at, x.fault());
        Check.due("no law by " + text, -1, x.count(2));
        Check.no("the tape is used up by " + text, x.end(1));
    }

    private static void lawFaults() {
        lawFault(";", 0);
        lawFault("doubt 1;", 8);
        lawFault("doubt", 5);
        lawFault("doubt 31", 6);
        lawFault("doubt 0030", 6);
        lawFault("doubt if key", 6);
        lawFault("doubt 1 key", 8);
        lawFault("doubt 1 2", 8);
        lawFault("doubt 1 if", 10);
        lawFault("doubt 1 if ;", 11);
        lawFault("doubt 1if(key);doubt 2ifeve<1", 22);
        lawFault("bath 1", 0);
        lawFault("guest wish 1 at 1", 0);
        lawFault("if key", 0);
        lawFault("calm 1 if key key", 14);
        lawFault("calm 1 if key and", 17);
        lawFault("calm 1 if key or", 16);
        lawFault("calm 1 if or key", 10);
        lawFault("calm 1 if not", 13);
        lawFault("calm 1 if (key", 14);
        lawFault("calm 1 if key)", 13);
        lawFault("calm 1 if ()", 11);
        lawFault("calm 1 if (week) < 3", 15);
        lawFault("calm 1 if week", 14);
        lawFault("calm 1 if week = 3", 15);
        lawFault("calm 1 if week <", 16);
        lawFault("calm 1 if week < key", 17);
        lawFault("calm 1 if week < 3 < 4", 19);
        lawFault("calm 1 if week + < 3", 17);
        lawFault("calm 1 if + week < 3", 10);
        lawFault("calm 1 if week + eve < 3", 17);
        lawFault("calm 1 if week < 1000", 17);
        lawFault("calm 1 if 1000 > week", 10);
        lawFault("calm 1 if days < 3", 10);
        lawFault("calm 1 if day < 3", 10);
        lawFault("calm 1 if doubt < 3", 10);
        lawFault("calm 1 if key + 1 < 3", 14);
        lawFault("calm 1 if key;;", 14);
        lawFault("calm 1 if key;if", 14);
    }

    private static void lawDepth() {
        SaturdayKeep x = new SaturdayKeep();
        Check.due("six nots", 1, Check.law(x, "doubt 1 if not not not not not not key"));
        Check.due("six brackets", 1, Check.law(x, "doubt 1 if ((((((key))))))"));
        Check.due("three of each", 1, Check.law(x, "doubt 1 if not(not(not(key and eve)))or not not(((not 1<2)))"));
        lawFault("doubt 1 if not not not not not not not key", 35);
        lawFault("doubt 1 if (((((((key)))))))", 17);
        lawFault("doubt 1 if not(not(not(not key)))", 23);
        lawFault("doubt 1 if key or ((((((not key))))))", 24);
        lawFault("doubt 1 if ((((((key))))));doubt 1 if ((((((x", 44);
    }

    private static void lawStays() {
        SaturdayKeep x = Check.with("guest wish 2 at 0", "doubt 9");
        x.go(0, 1);
        Check.wrong("a wrong law", () -> Check.law(x, "doubt 1;calm 31"));
        Check.due("lines", 1, x.count(2));
        Check.due("turns", 9, x.guest(0, 6));
        Check.due("acts", 1, x.count(15));
        Check.law(x, "calm 2");
        Check.due("turns", -2, x.guest(0, 6));
        Check.due("a text: no act is remembered", 0, x.count(15));
        // the longest law that fits on a tape
        StringBuilder text = new StringBuilder("doubt 1 if 1");
        while (text.length() < 396) {
            text.append("+1");
        }
        Check.due("a long law", 1, Check.law(x, text.append(">192").toString()));
        Check.due("it holds", 1, x.guest(0, 6));
    }

    private static void fault() {
        SaturdayKeep x = new SaturdayKeep();
        Check.due("ahead of any", -1, x.fault());
        Check.wrong("law", () -> Check.law(x, "calm 1;x"));
        Check.due("of the law", 7, x.fault());
        Check.tape(x, 9, 9, 9);
        Check.wrong("shifts", x::shifts);
        Check.due("a tape of shifts is no text", 7, x.fault());
        Check.house(x, "bath 1");
        Check.due("a right text", -1, x.fault());
        Check.wrong("house", () -> Check.house(x, "bath 8"));
        x.image();
        x.bath(1);
        x.undo();
        x.back();
        Check.due("neither undo nor back change it", 5, x.fault());
    }
}
