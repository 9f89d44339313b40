/** Promises 13 to 19: what was one, fields, yards that were ploughed. */
public final class FieldsTest {
    public static void main(String[] args) {
        joinedAlong();
        joinedAcross();
        joinedAlike();
        joinedInLine();
        joinedRefused();
        laterEast();
        laterNorth();
        odds();
        field();
        ploughed();
        lostByTheFirst();
        peak();
        noWay();
        Due.end();
    }

    private static void joinedAlong() {
        BentFurrows x = Due.told("bundle 0 100 50 east 4 5 50 3 left 0");
        along(x, 150, 1);
        along(x, 149, 0);
        along(x, 170, 1);
        along(x, 171, 0);
        along(x, 70, 1);
        along(x, 69, 0);
        along(x, 90, 1);
        along(x, 91, 0);
        along(x, 100, 0);
        Due.tell(x, "gap 0");
        along(x, 150, 1);
        along(x, 151, 0);
        along(x, 90, 1);
        along(x, 89, 0);
    }

    private static void along(BentFurrows x, int from, int want) {
        Due.tell(x, "bundle 1 " + from + " 50 east 4 5 10 3 left 0");
        pair(x, want);
    }

    private static void joinedAcross() {
        BentFurrows x = Due.told("slack 99;bundle 0 100 50 east 4 5 50 3 left 0");
        int[] from = {69, 70, 35, 36, 30, 50};
        int[] want = {1, 0, 0, 1, 0, 1};
        for (int i = 0; i < from.length; i++) {
            Due.tell(x, "bundle 1 150 " + from[i] + " east 3 5 10 3 left 0");
            pair(x, want[i]);
        }
        BentFurrows y = Due.told("bundle 0 50 100 north 4 5 50 3 left 0;bundle 1 55 165 north 4 5 50 3 left 0");
        pair(y, 1);
        Due.tell(y, "bundle 1 70 165 north 4 5 50 3 left 0");
        pair(y, 0);
    }

    private static void joinedAlike() {
        BentFurrows x = Due.told("bundle 0 100 50 east 4 5 50 3 left 9");
        String[] others = {
            "150 50 east 7 5 10 3 left 0", "150 50 north 4 5 10 3 left 9", "150 50 east 4 10 50 3 left 9",
            "150 50 east 4 5 50 4 left 9", "150 50 east 4 5 50 3 right 9",
        };
        for (int i = 0; i < others.length; i++) {
            Due.tell(x, "bundle 1 " + others[i]);
            pair(x, i == 0 ? 1 : 0);
        }
    }

    private static void joinedInLine() {
        BentFurrows x = Due.told("bundle 0 100 50 east 9 9 50 3 left 9");
        for (int apart = -20; apart <= 20; apart++) {
            int rest = Math.floorMod(apart, 9);
            Due.tell(x, "bundle 1 150 " + (50 + apart) + " east 9 9 50 3 left 9");
            pair(x, rest <= 2 || rest >= 7 ? 1 : 0);
        }
        Due.tell(x, "slack 0");
        pair(x, 0);
        Due.tell(x, "bundle 1 150 68 east 9 9 50 3 left 9");
        pair(x, 1);
        Due.tell(x, "slack 4;bundle 1 150 54 east 9 9 50 3 left 9");
        pair(x, 1);
        Due.tell(x, "slack 3");
        pair(x, 0);
    }

    private static void pair(BentFurrows x, int want) {
        Due.is("joined(0, 1)", x.joined(0, 1), want);
        Due.is("joined(1, 0)", x.joined(1, 0), want);
        Due.is("fields()", x.fields(), 2 - want);
    }

    private static void joinedRefused() {
        BentFurrows x = Due.told("bundle 0 0 0 east 1 1 1 0 left 0;bundle 1 0 0 east 1 1 1 0 left 0;mark 8 0 0 1 1");
        int[][] pairs = {{0, 0}, {0, 2}, {2, 0}, {2, 2}, {-1, 0}, {0, -1}, {8, 0}, {0, 8}};
        for (int[] p : pairs) {
            Due.is("joined", x.joined(p[0], p[1]), Due.UNKNOWN);
            Due.is("later", x.later(p[0], p[1]), Due.UNKNOWN);
            Due.is("odds", x.odds(p[0], p[1], 0), Due.UNKNOWN);
            Due.is("odds", x.odds(p[0], p[1], 2), Due.UNKNOWN);
        }
        Due.is("later: not joined", x.later(0, 1), Due.NOT);
        Due.is("odds: not joined", x.odds(0, 1, 0), Due.NOT);
        Due.is("odds: not joined", x.odds(0, 1, 1), Due.NOT);
        Due.is("odds: OUTSIDE ahead of NOT", x.odds(0, 1, 2), Due.OUTSIDE);
        Due.is("odds: OUTSIDE ahead of NOT", x.odds(0, 1, -1), Due.OUTSIDE);
    }

    /** Between the two lie x 150 .. 160, y 40 .. 70. */
    private static void laterEast() {
        BentFurrows x = Due.told("bundle 0 100 50 east 4 5 50 3 left 0;bundle 1 160 40 east 4 5 50 3 left 0");
        Due.is("no marks", x.later(0, 1), 0);
        later(x, "0 0 999 999", 1);
        later(x, "0 0 150 999", 0);
        later(x, "0 0 151 999", 1);
        later(x, "159 0 1 999", 1);
        later(x, "160 0 1 999", 0);
        later(x, "0 0 999 40", 0);
        later(x, "0 0 999 41", 1);
        later(x, "0 69 999 1", 1);
        later(x, "0 70 999 1", 0);
        later(x, "155 55 1 1", 1);
        Due.tell(x, "mark 8 155 40 1 1;mark 13 155 69 1 1;mark 9 155 70 1 1");
        Due.is("marks by bits", x.later(1, 0), 1 << 8 | 1 << 11 | 1 << 13);
        Due.tell(x, "bundle 1 150 40 east 4 5 50 3 left 0");
        Due.is("no yards between", x.later(0, 1), 0);
    }

    /** Between the two lie x 40 .. 70, y 150 .. 160. */
    private static void laterNorth() {
        BentFurrows x = Due.told("bundle 0 50 100 north 4 5 50 3 left 0;bundle 1 40 160 north 4 5 50 3 left 0");
        later(x, "0 0 999 150", 0);
        later(x, "0 0 999 151", 1);
        later(x, "0 159 999 1", 1);
        later(x, "0 160 999 1", 0);
        later(x, "0 0 40 999", 0);
        later(x, "0 0 41 999", 1);
        later(x, "69 0 1 999", 1);
        later(x, "70 0 1 999", 0);
    }

    private static void later(BentFurrows x, String box, int want) {
        Due.tell(x, "mark 11 " + box);
        Due.is("later(0, 1) of " + box, x.later(0, 1), want << 11);
        Due.is("later(1, 0) of " + box, x.later(1, 0), want << 11);
    }

    private static void odds() {
        for (int wide = 1; wide <= 20; wide++) {
            BentFurrows x = Due.told("bundle 0 0 0 east 1 " + wide + " 50 3 left 0;bundle 1 50 0 east 1 " + wide + " 50 3 left 0");
            for (int slack = 0; slack <= 11; slack++) {
                Due.tell(x, "slack " + slack);
                int doing = Math.min(wide, 2 * slack + 1);
                int above = x.odds(0, 1, 0);
                int below = x.odds(1, 0, 1);
                Due.is("odds of " + wide + ", " + slack, (long) above * wide, (long) below * doing);
                Due.is("lowest terms of " + wide + ", " + slack, gcd(above, below), 1);
            }
        }
    }

    private static int gcd(int a, int b) {
        return b == 0 ? a : gcd(b, a % b);
    }

    private static void field() {
        BentFurrows x = Due.told(
                "bundle 0 0 0 east 2 5 50 3 left 0;bundle 7 50 0 east 3 5 60 3 left 0;bundle 3 110 0 east 4 5 70 3 left 0",
                "bundle 5 500 0 east 1 5 50 3 left 0;bundle 6 550 0 east 1 5 50 3 left 0;bundle 1 800 0 east 1 1 1 0 left 0",
                "year 0 700 800;year 3 600 900;year 7 650 650;year 1 2000 2000");
        int members = 1 | 1 << 3 | 1 << 7;
        int yards = 2 * 5 * 50 + 3 * 5 * 60 + 4 * 5 * 70;
        int[] inIt = {0, 3, 7};
        for (int bundle : inIt) {
            Due.is("field(" + bundle + ", 0)", x.field(bundle, 0), members);
            Due.is("field(" + bundle + ", 1)", x.field(bundle, 1), yards);
            Due.is("field(" + bundle + ", 2)", x.field(bundle, 2), 600);
        }
        Due.is("joined by others only", x.joined(0, 3), 0);
        Due.is("field(6, 0)", x.field(6, 0), 1 << 5 | 1 << 6);
        Due.is("field(6, 2)", x.field(6, 2), 0);
        Due.is("field(1, 0)", x.field(1, 0), 1 << 1);
        Due.is("field(1, 1)", x.field(1, 1), 1);
        Due.is("field(1, 2)", x.field(1, 2), 2000);
        Due.is("fields()", x.fields(), 3);
        Due.is("field(0, 3)", x.field(0, 3), Due.OUTSIDE);
        Due.is("field(0, -1)", x.field(0, -1), Due.OUTSIDE);
        Due.is("field(2, 0)", x.field(2, 0), Due.UNKNOWN);
        Due.is("field(2, 3)", x.field(2, 3), Due.UNKNOWN);
        Due.is("field(8, 0)", x.field(8, 0), Due.UNKNOWN);
        Due.is("field(-1, 0)", x.field(-1, 0), Due.UNKNOWN);
    }

    private static void ploughed() {
        BentFurrows x = Due.told(
                "bundle 0 0 0 east 1 1 1 0 left 0;bundle 1 0 0 north 1 1 10 0 left 0;bundle 2 0 0 east 1 1 100 0 left 0",
                "mark 8 0 0 1 1;mark 9 0 0 1 1;over 8 0;over 9 8;over 2 1",
                "year 0 100 200;year 1 150 150;year 8 300 400;year 9 350 900;year 2 500 600");
        int[] year = {0, 99, 100, 149, 150, 199, 200, 299, 300, 398, 399, 400, 499, 500, 599, 600, 2000};
        int[] least = {0, 0, 0, 0, 10, 10, 11, 11, 10, 10, 10, 10, 10, 10, 10, 110, 110};
        int[] most = {0, 0, 1, 1, 11, 11, 11, 11, 11, 11, 11, 10, 10, 110, 110, 110, 110};
        for (int i = 0; i < year.length; i++) {
            Due.is("ploughed(" + year[i] + ", 0)", x.ploughed(year[i], 0), least[i]);
            Due.is("ploughed(" + year[i] + ", 1)", x.ploughed(year[i], 1), most[i]);
        }
        Due.is("ploughed(-1, 0)", x.ploughed(-1, 0), Due.OUTSIDE);
        Due.is("ploughed(2001, 0)", x.ploughed(2001, 0), Due.OUTSIDE);
        Due.is("ploughed(0, 2)", x.ploughed(0, 2), Due.OUTSIDE);
        Due.is("ploughed(0, -1)", x.ploughed(0, -1), Due.OUTSIDE);
        Due.is("peak(0)", x.peak(0), 500);
        Due.is("peak(1)", x.peak(1), 110);
    }

    /** Of several marks the first to come takes the bundle: by earliest and by latest each. */
    private static void lostByTheFirst() {
        BentFurrows x = Due.told("bundle 0 0 0 east 1 1 7 0 left 0;mark 8 0 0 1 1;mark 13 0 0 1 1;mark 9 0 0 1 1",
                "over 8 0;over 13 0;over 9 13;year 0 0 100;year 8 200 900;year 13 300 500;year 9 0 600;over 0 10");
        Due.is("at the least, 199", x.ploughed(199, 0), 7);
        Due.is("at the least, 200", x.ploughed(200, 0), 0);
        Due.is("at the most, 499", x.ploughed(499, 1), 7);
        Due.is("at the most, 500", x.ploughed(500, 1), 0);
        Due.tell(x, "year 0 250 260");
        Due.is("never at the least", x.ploughed(260, 0), 0);
        Due.is("at the most, 250", x.ploughed(250, 1), 7);
    }

    private static void peak() {
        BentFurrows x = Due.told("bundle 0 0 0 east 1 1 5 0 left 0;bundle 1 0 0 north 1 1 5 0 left 0;mark 8 0 0 1 1;over 8 0");
        peak(x, 0, 10);
        Due.tell(x, "year 0 300 300;year 8 400 400;year 1 500 600");
        peak(x, 300, 5);
        Due.tell(x, "year 1 399 600");
        peak(x, 399, 10);
        Due.tell(x, "year 1 400 600");
        peak(x, 300, 5);
        Due.tell(x, "bundle 1 0 0 north 1 1 6 0 left 0");
        peak(x, 400, 6);
        Due.is("peak(2)", x.peak(2), Due.OUTSIDE);
        Due.is("peak(-1)", x.peak(-1), Due.OUTSIDE);
        peak(new BentFurrows(), 0, 0);
    }

    private static void peak(BentFurrows x, int year, int yards) {
        Due.is("peak(0)", x.peak(0), year);
        Due.is("peak(1)", x.peak(1), yards);
    }

    private static void noWay() {
        BentFurrows x = Due.told("bundle 0 0 0 east 1 1 5 0 left 0;mark 8 0 0 1 1;mark 9 0 0 1 1;over 8 9;over 9 8");
        peak(x, Due.NONE, Due.NONE);
        Due.is("ploughed(0, 0)", x.ploughed(0, 0), Due.NONE);
        Due.is("ploughed(0, 1)", x.ploughed(0, 1), Due.NONE);
        Due.is("ploughed(0, 2)", x.ploughed(0, 2), Due.OUTSIDE);
        Due.is("peak(2)", x.peak(2), Due.OUTSIDE);
        Due.is("field(0, 0)", x.field(0, 0), 1);
        Due.is("field(0, 1)", x.field(0, 1), 5);
        Due.is("field(0, 2)", x.field(0, 2), Due.NONE);
        BentFurrows empty = new BentFurrows();
        Due.is("fields() of none", empty.fields(), 0);
        Due.is("ploughed(0, 1) of none", empty.ploughed(0, 1), 0);
    }
}
