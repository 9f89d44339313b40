/** Promises 1 to 7 and 28: a new object, the text and its faults, what is told. */
public final class ToldTest {
    public static void main(String[] args) {
        newObject();
        write();
        erase();
        places();
        bounds();
        tokens();
        lines();
        parish();
        bundle();
        covers();
        count();
        Due.end();
    }

    private static void newObject() {
        BentFurrows x = new BentFurrows();
        int[] counts = {0, 0, 0, 0, 0, 0, 0, 2, 20};
        for (int what = 0; what < counts.length; what++) {
            Due.is("new: count(" + what + ")", x.count(what), counts[what]);
        }
        for (int thing = 0; thing < 14; thing++) {
            Due.is("new: covers(" + thing + ", 0)", x.covers(thing, 0), Due.UNKNOWN);
        }
        for (int bundle = 0; bundle < 8; bundle++) {
            Due.is("new: teams(" + bundle + ")", x.teams(bundle), Due.UNKNOWN);
        }
        Due.is("new: fault()", x.fault(), 0);
        Due.is("new: parish()", x.parish(), Due.NOT);
    }

    private static void write() {
        BentFurrows x = new BentFurrows();
        Due.is("write(.., 0)", x.write(0, 0), Due.OUTSIDE);
        Due.is("write(.., 9)", x.write(0, 9), Due.OUTSIDE);
        Due.is("write(.., -1)", x.write(0, -1), Due.OUTSIDE);
        Due.is("count(4) behind refusals", x.count(4), 0);
        Due.is("only n bytes", x.write(Due.packed("gap 5xyz", 0, 8), 5), 5);
        Due.is("only n bytes: fault()", x.fault(), Due.NONE);
        Due.is("parish()", x.parish(), 1);
        Due.is("count(8)", x.count(8), 5);
        Due.is("high bytes", x.write(-1L, 8), 8);
        Due.is("high bytes: fault()", x.fault(), 0);
        x.erase();
        for (int i = 1; i <= 24; i++) {
            Due.is("write " + i, x.write(0x2020202020202020L, 8), 8 * i);
        }
        Due.is("to 199", x.write(0x20202020202020L, 7), 199);
        Due.is("two more than fit one", x.write(0x2020, 2), Due.FULL);
        Due.is("OUTSIDE ahead of FULL", x.write(0, 9), Due.OUTSIDE);
        Due.is("still 199", x.count(4), 199);
        Due.is("to 200", x.write(32, 1), 200);
        Due.is("no more", x.write(32, 1), Due.FULL);
        Due.is("blanks alone: fault()", x.fault(), 200);
        Due.is("erase()", x.erase(), 200);
        Due.is("room again", x.write(32, 1), 1);
    }

    private static void erase() {
        BentFurrows x = Due.told("gap 7;slack 1");
        Due.is("erase() of none", x.erase(), 0);
        Due.write(x, "gap 8");
        Due.is("erase()", x.erase(), 5);
        Due.is("erase() again", x.erase(), 0);
        Due.is("nothing was done", x.count(8), 7);
        Due.is("parish() of none", x.parish(), Due.NOT);
    }

    private static void places() {
        Due.fault("", 0);
        Due.fault("gap", 3);
        Due.fault("gap  ", 5);
        Due.fault("gap 5", Due.NONE);
        Due.fault("gap 5 5", 6);
        Due.fault("gap 5 gap 5", 6);
        Due.fault("gaps 5", 0);
        Due.fault("ga 5", 0);
        Due.fault("5", 0);
        Due.fault("gap x", 4);
        Due.fault("gap -5", 4);
        Due.fault("gap 5x", 5);
        Due.fault("Gap 5", 0);
        Due.fault("gAp 5", 0);
        Due.fault("gap\t5", 3);
        Due.fault("gap 5\0", 5);
        Due.fault("gap 5\u00ff", 5);
        Due.fault("gap 5.", 5);
        Due.fault("bundle east", 7);
        Due.fault("bundle 0 1 2 3", 13);
        Due.fault("bundle 0 1 2 left", 13);
        Due.fault("bundle 0 1 2 easter", 13);
        Due.fault("bundle 0 1 2 nort", 13);
        Due.fault("bundle 0 1 2 north 3 4 5 6 east", 27);
        Due.fault("bundle 0 1 2 north 3 4 5 6 right 7", Due.NONE);
        Due.fault("bundle 0 1 2 north 3 4 5 6 right 7 8", 35);
        Due.fault("over 3", 6);
        Due.fault("over 3 ", 7);
        Due.fault("team 1 2 3 4", 12);
    }

    /** Each slot with its least, its most and what is just beyond. */
    private static void bounds() {
        slot("bundle ", 0, 7, " 0 0 east 1 1 1 0 left 0");
        slot("bundle 0 ", 0, 999, " 0 east 1 1 1 0 left 0");
        slot("bundle 0 0 ", 0, 999, " east 1 1 1 0 left 0");
        slot("bundle 0 0 0 east ", 1, 30, " 1 1 0 left 0");
        slot("bundle 0 0 0 east 1 ", 1, 20, " 1 0 left 0");
        slot("bundle 0 0 0 east 1 1 ", 1, 500, " 0 left 0");
        slot("bundle 0 0 0 east 1 1 1 ", 0, 40, " left 0");
        slot("bundle 0 0 0 east 1 1 1 0 left ", 0, 60, "");
        slot("mark ", 8, 13, " 0 0 1 1");
        slot("mark 8 ", 0, 999, " 0 1 1");
        slot("mark 8 0 ", 0, 999, " 1 1");
        slot("mark 8 0 0 ", 1, 999, " 1");
        slot("mark 8 0 0 999 ", 1, 999, "");
        slot("year ", 0, 13, " 0 0");
        slot("year 0 ", 0, 2000, " 2000");
        slot("year 0 0 ", 0, 2000, "");
        slot("year 0 7 ", 7, 2000, "");
        slot("year 13 2000 ", 2000, 2000, "");
        slot("over 5 ", 0, 4, "");
        slot("over 4 ", 5, 13, "");
        slot("team ", 1, 12, " 0 0 0 0");
        slot("team 1 ", 0, 40, " 40 0 0");
        slot("team 1 0 ", 0, 40, " 0 0");
        slot("team 1 9 ", 9, 40, " 0 0");
        slot("team 1 0 0 ", 0, 2000, " 2000");
        slot("team 1 40 40 0 ", 0, 2000, "");
        slot("team 1 40 40 1500 ", 1500, 2000, "");
        slot("slack ", 0, 99, "");
        slot("gap ", 0, 99, "");
        Due.fault("over 14 0", 5);
        Due.fault("over 13 0", Due.NONE);
    }

    private static void slot(String ahead, int least, int most, String behind) {
        Due.fault(ahead + least + behind, Due.NONE);
        Due.fault(ahead + most + behind, Due.NONE);
        Due.fault(ahead + (most + 1) + behind, ahead.length());
        if (least > 0) {
            Due.fault(ahead + (least - 1) + behind, ahead.length());
        }
        Due.fault(ahead + "0000" + least + behind, ahead.length());
        Due.fault(ahead, ahead.length());
    }

    /** Blanks part tokens, and may stand wherever a token ends. */
    private static void tokens() {
        Due.fault("   gap   5   ;   slack   5   ", Due.NONE);
        Due.fault("gap5;slack5", Due.NONE);
        Due.fault("bundle0 0 0east1 1 1 0left0", Due.NONE);
        Due.fault("gap 0005", Due.NONE);
        Due.fault("gap 00005", 4);
        Due.fault("gap 4294967296", 4);
        Due.fault("over 3 0003", 7);
        Due.fault("gapgap 5", 0);
    }

    private static void lines() {
        Due.fault(";gap 5", 0);
        Due.fault("gap 5;", 6);
        Due.fault("gap 5; ", 7);
        Due.fault("gap 5;;gap 5", 6);
        Due.fault("gap 5:gap 5", 5);
        Due.fault("gap 1;gap 2;gap 3;gap 4;gap 5;gap 6;gap 7;gap 8", Due.NONE);
        Due.fault("gap 1;gap 2;gap 3;gap 4;gap 5;gap 6;gap 7;gap 8;", 47);
        Due.fault("gap 1;gap 2;gap 3;gap 4;gap 5;gap 6;gap 7;gap 8 ;gap 9", 48);
        Due.fault("gap 1;gap 2;gap 3;gap 4;gap 5;gap 6;gap 7;gap 8;x", 47);
        Due.fault("gap 1;gap 2;gap 3;gap 4;gap 5;gap 6;gap 7;gap 100;", 46);
    }

    private static void parish() {
        BentFurrows x = new BentFurrows();
        Due.write(x, "gap 5;gap 6;slack 100");
        Due.is("parish() with a fault", x.parish(), Due.NOT);
        Due.is("no line was done", x.count(8), 20);
        Due.is("the text stays", x.count(4), 21);
        x.erase();
        Due.tell(x, "gap 5;gap 6;slack 99");
        Due.is("lines in their order", x.count(8), 6);
        Due.is("slack", x.count(7), 99);
        Due.is("the text is empty", x.count(4), 0);
        Due.is("again", x.parish(), Due.NOT);
        Due.write(x, "gap 7");
        Due.is("fault() does nothing", x.fault(), Due.NONE);
        Due.is("fault() does nothing", x.count(8), 6);
        Due.is("fault() keeps the text", x.count(4), 5);
        Due.is("one line", x.parish(), 1);
        Due.is("done", x.count(8), 7);
    }

    private static void bundle() {
        BentFurrows x = Due.told("bundle 7 999 0 north 30 20 500 40 right 60;bundle 0 1 2 east 3 4 5 6 left 7");
        int[] seventh = {999, 0, 1, 30, 20, 500, 40, 1, 60, 300000};
        int[] zeroth = {1, 2, 0, 3, 4, 5, 6, 0, 7, 60};
        for (int what = 0; what < 10; what++) {
            Due.is("bundle(7, " + what + ")", x.bundle(7, what), seventh[what]);
            Due.is("bundle(0, " + what + ")", x.bundle(0, what), zeroth[what]);
        }
        Due.is("bundle(0, 10)", x.bundle(0, 10), Due.OUTSIDE);
        Due.is("bundle(0, -1)", x.bundle(0, -1), Due.OUTSIDE);
        Due.is("bundle(1, 0)", x.bundle(1, 0), Due.UNKNOWN);
        Due.is("bundle(1, 10)", x.bundle(1, 10), Due.UNKNOWN);
        Due.is("bundle(-1, 0)", x.bundle(-1, 0), Due.UNKNOWN);
        Due.is("bundle(8, 0)", x.bundle(8, 0), Due.UNKNOWN);
        Due.tell(x, "mark 8 0 0 1 1;bundle 0 9 9 north 1 1 1 1 right 1");
        Due.is("a mark is no bundle", x.bundle(8, 0), Due.UNKNOWN);
        Due.is("told anew", x.bundle(0, 0), 9);
        Due.is("told anew", x.bundle(0, 9), 1);
        Due.is("two still", x.count(0), 2);
    }

    private static void covers() {
        BentFurrows x = Due.told("bundle 3 10 20 east 3 4 50 0 left 0;bundle 4 30 40 north 3 4 50 0 left 0;mark 13 5 6 7 8");
        int[] east = {10, 20, 50, 12};
        int[] north = {30, 40, 12, 50};
        int[] mark = {5, 6, 7, 8};
        for (int what = 0; what < 4; what++) {
            Due.is("covers(3, " + what + ")", x.covers(3, what), east[what]);
            Due.is("covers(4, " + what + ")", x.covers(4, what), north[what]);
            Due.is("covers(13, " + what + ")", x.covers(13, what), mark[what]);
        }
        Due.is("covers(3, 4)", x.covers(3, 4), Due.OUTSIDE);
        Due.is("covers(3, -1)", x.covers(3, -1), Due.OUTSIDE);
        Due.is("covers(12, 0)", x.covers(12, 0), Due.UNKNOWN);
        Due.is("covers(14, 9)", x.covers(14, 9), Due.UNKNOWN);
        Due.is("covers(-1, 0)", x.covers(-1, 0), Due.UNKNOWN);
        Due.tell(x, "bundle 3 10 20 north 3 4 50 0 left 0;mark 13 0 0 1 999");
        Due.is("turned", x.covers(3, 2), 12);
        Due.is("turned", x.covers(3, 3), 50);
        Due.is("mark told anew", x.covers(13, 3), 999);
    }

    private static void count() {
        BentFurrows x = Due.told(
                "bundle 0 0 0 east 1 1 1 0 left 0;bundle 7 0 0 east 1 1 1 0 left 0;mark 8 0 0 1 1;over 3 4;over 4 3",
                "mark 13 0 0 1 1;mark 10 0 0 1 1;team 1 0 0 0 0;team 12 0 0 0 0;team 1 1 1 1 1;over 3 4;slack 0;gap 0");
        Due.write(x, "gap");
        x.terrier(4, 30, 0);
        x.picture(0, 0, 0);
        x.picture(0, 0, 0);
        int[] counts = {2, 3, 2, 2, 3, 1, 2, 0, 0};
        for (int what = 0; what < counts.length; what++) {
            Due.is("count(" + what + ")", x.count(what), counts[what]);
        }
        Due.is("count(9)", x.count(9), Due.OUTSIDE);
        Due.is("count(-1)", x.count(-1), Due.OUTSIDE);
    }
}
