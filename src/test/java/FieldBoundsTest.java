/** The bounds that part 2 and the promises 13 to 19 name: what was one, fields, yards that were ploughed. */
public final class FieldBoundsTest {
    private static final int LEAST = Integer.MIN_VALUE;
    private static final int MOST = Integer.MAX_VALUE;
    /** Numbers that are no told BUNDLE where 0 and 7 are told, and MARK 8. */
    private static final int[] NO_BUNDLE = {-1, 1, 6, 8, 9, 13, 14, 32, 39, -25, LEAST, MOST};

    public static void main(String[] args) {
        joinedNumbers();
        laterNumbers();
        oddsNumbers();
        gapBehindTheEnd();
        leastAndGreatestGap();
        someOfTheSameYards();
        slackFromAWhole();
        leastAndGreatestSlack();
        leastAndGreatestWide();
        aWholeNumberOfWideApart();
        alikeInAll();
        atTheEdgeOfTheGround();
        laterAtEachEdge();
        laterWithoutYards();
        laterOfAllMarks();
        laterOfNoneTold();
        oddsInLowestTerms();
        oddsLeastAndGreatest();
        fieldNumbers();
        fieldOfOneAndOfEight();
        fieldByOthers();
        fieldOfMostYards();
        firstOfAField();
        fieldsOfNoneUpToEight();
        ploughedNumbers();
        ploughedAtBothEnds();
        lostFromTheYearOn();
        lostByTheLeastOfAllMarks();
        lostByToldPairsOnly();
        lostAheadOfItsYear();
        peakNumbers();
        peakOfNoneAndMost();
        peakTheFirstOfSeveral();
        peakAtBothEnds();
        noWay();
        Due.end();
    }

    private static BentFurrows pairOf(String one, String two) {
        return Due.told("bundle 0 " + one, "bundle 7 " + two);
    }

    private static void joined(String note, BentFurrows x, boolean want) {
        Due.is(note + ": joined(0, 7)", x.joined(0, 7), want ? 1 : 0);
        Due.is(note + ": joined(7, 0)", x.joined(7, 0), want ? 1 : 0);
        Due.is(note + ": fields()", x.fields(), want ? 1 : 2);
        Due.is(note + ": field(0, 0)", x.field(0, 0), want ? 129 : 1);
        if (!want) {
            Due.is(note + ": later(0, 7)", x.later(0, 7), Due.NOT);
            Due.is(note + ": odds(7, 0, 0)", x.odds(7, 0, 0), Due.NOT);
            Due.is(note + ": odds(7, 0, 1)", x.odds(7, 0, 1), Due.NOT);
        }
    }

    // ---- promise 13

    private static BentFurrows joinedAndAMark() {
        BentFurrows x = pairOf("0 0 east 1 5 50 0 left 0", "60 0 east 1 5 50 0 left 0");
        Due.tell(x, "mark 8 50 0 10 5");
        return x;
    }

    private static void joinedNumbers() {
        BentFurrows x = joinedAndAMark();
        joined("told", x, true);
        for (int no : NO_BUNDLE) {
            Due.is("joined(0, " + no + ")", x.joined(0, no), Due.UNKNOWN);
            Due.is("joined(" + no + ", 7)", x.joined(no, 7), Due.UNKNOWN);
            Due.is("joined(" + no + ", " + no + ")", x.joined(no, no), Due.UNKNOWN);
        }
        Due.is("one and itself", x.joined(0, 0), Due.UNKNOWN);
        Due.is("one and itself", x.joined(7, 7), Due.UNKNOWN);
    }

    private static void laterNumbers() {
        BentFurrows x = joinedAndAMark();
        Due.is("later(0, 7)", x.later(0, 7), 256);
        for (int no : NO_BUNDLE) {
            Due.is("later(0, " + no + ")", x.later(0, no), Due.UNKNOWN);
            Due.is("later(" + no + ", 7)", x.later(no, 7), Due.UNKNOWN);
        }
        Due.is("one and itself", x.later(0, 0), Due.UNKNOWN);
        Due.tell(x, "gap 9");
        Due.is("not joined", x.later(0, 7), Due.NOT);
        Due.is("UNKNOWN ahead of NOT", x.later(0, 6), Due.UNKNOWN);
        Due.is("UNKNOWN ahead of NOT", x.later(7, 7), Due.UNKNOWN);
    }

    private static void oddsNumbers() {
        BentFurrows x = joinedAndAMark();
        Due.is("odds(0, 7, 0)", x.odds(0, 7, 0), 1);
        Due.is("odds(0, 7, 1)", x.odds(0, 7, 1), 1);
        for (int part : new int[] {-1, 2, 32, 33, LEAST, MOST}) {
            Due.is("odds(0, 7, " + part + ")", x.odds(0, 7, part), Due.OUTSIDE);
            for (int no : NO_BUNDLE) {
                Due.is("odds(0, " + no + ", " + part + ")", x.odds(0, no, part), Due.UNKNOWN);
                Due.is("odds(" + no + ", 7, " + part + ")", x.odds(no, 7, part), Due.UNKNOWN);
            }
            Due.is("odds(7, 7, " + part + ")", x.odds(7, 7, part), Due.UNKNOWN);
        }
        Due.tell(x, "gap 9");
        Due.is("not joined", x.odds(0, 7, 0), Due.NOT);
        Due.is("not joined", x.odds(0, 7, 1), Due.NOT);
        Due.is("OUTSIDE ahead of NOT", x.odds(0, 7, 2), Due.OUTSIDE);
        Due.is("OUTSIDE ahead of NOT", x.odds(0, 7, -1), Due.OUTSIDE);
        Due.is("UNKNOWN ahead of NOT", x.odds(0, 0, 0), Due.UNKNOWN);
    }

    /** "one begins behind the end of the other, GAP yards at most behind it (in the way that they lie)". */
    private static void gapBehindTheEnd() {
        int[] behind = {-100, -50, -2, -1, 0, 1, 19, 20, 21, 22, 99};
        for (int gap : behind) {
            boolean want = gap >= 0 && gap <= 20;
            joined("east " + gap, pairOf("200 50 east 3 5 100 9 left 0", 300 + gap + " 50 east 3 5 40 9 left 0"), want);
            joined("north " + gap, pairOf("50 200 north 3 5 100 9 left 0", "50 " + (300 + gap) + " north 3 5 40 9 left 0"), want);
            // the one with the lesser number may as well be the one behind
            joined("back east " + gap, pairOf(300 + gap + " 50 east 3 5 40 9 left 0", "200 50 east 3 5 100 9 left 0"), want);
        }
        joined("right one above the other", pairOf("200 50 east 3 5 100 9 left 0", "200 65 east 3 5 100 9 left 0"), false);
    }

    private static void leastAndGreatestGap() {
        int[][] cases = {{0, 0, 1}, {0, 1, 0}, {1, 1, 1}, {1, 2, 0}, {98, 98, 1}, {98, 99, 0}, {99, 98, 1}, {99, 99, 1}, {99, 100, 0}};
        for (int[] c : cases) {
            BentFurrows x = pairOf("0 0 east 1 1 1 0 left 0", 1 + c[1] + " 0 east 1 1 1 0 left 0");
            Due.tell(x, "gap " + c[0]);
            joined("gap " + c[0] + ", " + c[1] + " yards", x, c[2] == 1);
        }
    }

    /** "that cover some of the same yards in the other way": one yard is enough, none is not. */
    private static void someOfTheSameYards() {
        int[][] cases = {{85, 0}, {86, 1}, {87, 1}, {100, 1}, {113, 1}, {114, 1}, {115, 0}, {84, 0}, {116, 0}};
        for (int[] c : cases) {
            BentFurrows x = pairOf("0 100 east 3 5 50 0 left 0", "50 " + c[0] + " east 3 5 50 0 left 0");
            Due.tell(x, "slack 99");
            joined("east from " + c[0], x, c[1] == 1);
            BentFurrows y = pairOf("100 0 north 3 5 50 0 left 0", c[0] + " 50 north 3 5 50 0 left 0");
            Due.tell(y, "slack 99");
            joined("north from " + c[0], y, c[1] == 1);
        }
        BentFurrows inner = pairOf("0 0 east 30 20 50 0 left 0", "50 300 east 1 20 50 0 left 0");
        joined("one within the other", inner, true);
    }

    private static void slackFromAWhole() {
        for (int wide = 4; wide <= 20; wide += 4) {
            for (int apart = -2 * wide; apart <= 2 * wide; apart++) {
                int over = Math.floorMod(apart, wide);
                BentFurrows x = pairOf("0 100 east 9 " + wide + " 50 0 left 0", "50 " + (100 + apart) + " east 9 " + wide + " 50 0 left 0");
                joined(wide + " wide, " + apart, x, over <= 2 || wide - over <= 2);
                for (int slack = 0; slack <= wide / 2; slack += wide / 2) {
                    Due.tell(x, "slack " + slack);
                    joined(wide + " wide, " + apart + ", slack " + slack, x, over <= slack || wide - over <= slack);
                }
            }
        }
    }

    private static void leastAndGreatestSlack() {
        int[][] cases = {{0, 0, 1}, {0, 1, 0}, {0, 19, 0}, {0, 20, 1}, {9, 9, 1}, {9, 10, 0}, {9, 11, 1}, {10, 10, 1}, {99, 10, 1}, {99, 7, 1}};
        for (int[] c : cases) {
            BentFurrows x = pairOf("100 0 north 2 20 50 0 left 0", 100 + c[1] + " 50 north 2 20 50 0 left 0");
            Due.tell(x, "slack " + c[0]);
            joined("slack " + c[0] + ", " + c[1] + " over", x, c[2] == 1);
        }
    }

    private static void leastAndGreatestWide() {
        for (int apart = 0; apart < 30; apart++) {
            BentFurrows x = pairOf("0 100 east 30 1 50 0 left 0", "50 " + (100 + apart) + " east 30 1 50 0 left 0");
            Due.tell(x, "slack 0");
            joined("1 wide, " + apart, x, true);
        }
        for (int apart = 560; apart < 600; apart++) {
            BentFurrows x = pairOf("0 100 east 30 20 50 0 left 0", "50 " + (100 + apart) + " east 30 20 50 0 left 0");
            Due.tell(x, "slack 0");
            joined("20 wide, " + apart, x, apart % 20 == 0);
        }
    }

    private static void aWholeNumberOfWideApart() {
        for (int times = -9; times <= 9; times++) {
            BentFurrows x = pairOf("0 100 east 9 7 50 0 left 0", "50 " + (100 + 7 * times) + " east 9 7 50 0 left 0");
            Due.tell(x, "slack 0");
            joined(times + " times", x, times > -9 && times < 9);
        }
    }

    private static void alikeInAll() {
        String one = "0 100 east 4 5 50 20 left 30";
        joined("alike", pairOf(one, "50 100 east 4 5 50 20 left 30"), true);
        joined("more ridges", pairOf(one, "50 100 east 30 5 50 20 left 30"), true);
        joined("longer", pairOf(one, "50 100 east 4 5 500 20 left 30"), true);
        joined("higher", pairOf(one, "50 100 east 4 5 50 20 left 60"), true);
        joined("the other way", pairOf(one, "50 100 north 4 5 50 20 left 30"), false);
        joined("wider by one", pairOf(one, "50 100 east 4 6 50 20 left 30"), false);
        joined("narrower by one", pairOf(one, "50 100 east 4 4 50 20 left 30"), false);
        joined("more swing by one", pairOf(one, "50 100 east 4 5 50 21 left 30"), false);
        joined("less swing by one", pairOf(one, "50 100 east 4 5 50 19 left 30"), false);
        joined("the other side", pairOf(one, "50 100 east 4 5 50 20 right 30"), false);
    }

    private static void atTheEdgeOfTheGround() {
        joined("east", pairOf("499 999 east 30 20 500 40 right 60", "999 999 east 30 20 500 40 right 60"), true);
        joined("north", pairOf("999 499 north 30 20 500 40 right 60", "999 999 north 30 20 500 40 right 60"), true);
        joined("overlapping by one", pairOf("500 999 east 30 20 500 40 right 60", "999 999 east 30 20 500 40 right 60"), false);
        joined("from the corner", pairOf("0 0 east 1 1 1 0 left 0", "1 0 east 1 1 1 0 left 0"), true);
    }

    // ---- promise 14

    /** Between the two lie 150 .. 160 the one way, 40 .. 70 the other. */
    private static void laterAtEachEdge() {
        BentFurrows east = pairOf("100 50 east 4 5 50 3 left 0", "160 40 east 4 5 50 3 left 0");
        BentFurrows north = pairOf("50 100 north 4 5 50 3 left 0", "40 160 north 4 5 50 3 left 0");
        int[][] cases = {
            {149, 39, 1, 1, 0}, {149, 40, 1, 1, 0}, {150, 39, 1, 1, 0}, {150, 40, 1, 1, 1}, {159, 40, 1, 1, 1}, {160, 40, 1, 1, 0},
            {150, 69, 1, 1, 1}, {150, 70, 1, 1, 0}, {159, 69, 1, 1, 1}, {160, 70, 1, 1, 0}, {149, 39, 2, 2, 1}, {149, 40, 1, 30, 0},
            {150, 39, 10, 1, 0}, {0, 0, 999, 999, 1}, {0, 0, 150, 40, 0}, {0, 0, 151, 41, 1}, {0, 0, 151, 40, 0}, {0, 0, 150, 41, 0},
            {999, 999, 999, 999, 0}, {159, 69, 999, 999, 1}, {100, 55, 50, 1, 0}, {160, 55, 50, 1, 0}, {155, 45, 1, 1, 1}, {155, 65, 1, 1, 1},
        };
        for (int[] c : cases) {
            Due.tell(east, "mark 13 " + c[0] + " " + c[1] + " " + c[2] + " " + c[3]);
            Due.is("later(0, 7)", east.later(0, 7), c[4] << 13);
            Due.is("later(7, 0)", east.later(7, 0), c[4] << 13);
            Due.tell(north, "mark 13 " + c[1] + " " + c[0] + " " + c[3] + " " + c[2]);
            Due.is("later(0, 7)", north.later(0, 7), c[4] << 13);
            Due.is("later(7, 0)", north.later(7, 0), c[4] << 13);
        }
    }

    /** "no yards: none". */
    private static void laterWithoutYards() {
        BentFurrows x = pairOf("100 50 east 4 5 50 3 left 0", "150 50 east 4 5 50 3 left 0");
        Due.tell(x, "mark 8 0 0 999 999;mark 13 149 50 2 20");
        Due.is("they meet", x.later(0, 7), 0);
        Due.tell(x, "bundle 7 151 50 east 4 5 50 3 left 0");
        Due.is("one yard between", x.later(0, 7), 1 << 8 | 1 << 13);
    }

    private static void laterOfAllMarks() {
        BentFurrows x = pairOf("100 50 east 4 5 50 3 left 0", "170 50 east 4 5 50 3 left 0");
        int all = 0;
        for (int mark = 8; mark <= 13; mark++) {
            Due.tell(x, "mark " + mark + " 155 55 1 1");
            all |= 1 << mark;
            Due.is("up to mark " + mark, x.later(0, 7), all);
        }
        Due.tell(x, "mark 10 0 0 1 1");
        Due.is("told anew elsewhere", x.later(0, 7), all & ~(1 << 10));
        // what lies between them is no bundle, and years or pairs do not matter
        Due.tell(x, "bundle 3 155 55 north 1 1 1 0 left 0;year 8 0 0;year 0 2000 2000;over 0 8");
        Due.is("as ahead", x.later(7, 0), all & ~(1 << 10));
    }

    private static void laterOfNoneTold() {
        BentFurrows x = pairOf("100 50 east 4 5 50 3 left 0", "170 50 east 4 5 50 3 left 0");
        Due.is("no marks", x.later(0, 7), 0);
        Due.tell(x, "over 8 0;year 8 500 600");
        Due.is("not told by its pair or years", x.later(0, 7), 0);
    }

    // ---- promise 15

    private static void oddsInLowestTerms() {
        for (int wide = 1; wide <= 20; wide++) {
            for (int slack = 0; slack <= 10; slack++) {
                int doing = 0;
                for (int over = 0; over < wide; over++) {
                    if (over <= slack || wide - over <= slack) {
                        doing++;
                    }
                }
                int common = doing;
                while (doing % common != 0 || wide % common != 0) {
                    common--;
                }
                odds(wide, slack, doing / common, wide / common);
            }
        }
    }

    private static void odds(int wide, int slack, int above, int below) {
        BentFurrows x = pairOf("0 0 east 1 " + wide + " 9 0 left 0", "9 0 east 2 " + wide + " 9 0 left 0");
        Due.tell(x, "slack " + slack);
        Due.is("above of " + wide + ", " + slack, x.odds(0, 7, 0), above);
        Due.is("below of " + wide + ", " + slack, x.odds(0, 7, 1), below);
        Due.is("above of " + wide + ", " + slack, x.odds(7, 0, 0), above);
        Due.is("below of " + wide + ", " + slack, x.odds(7, 0, 1), below);
    }

    private static void oddsLeastAndGreatest() {
        odds(1, 0, 1, 1);
        odds(2, 0, 1, 2);
        odds(2, 1, 1, 1);
        odds(20, 0, 1, 20);
        odds(20, 2, 1, 4);
        odds(20, 9, 19, 20);
        odds(20, 10, 1, 1);
        odds(20, 99, 1, 1);
        odds(1, 99, 1, 1);
        odds(6, 1, 1, 2);
        odds(6, 2, 5, 6);
        odds(9, 1, 1, 3);
    }

    // ---- promises 16, 17

    private static void fieldNumbers() {
        BentFurrows x = joinedAndAMark();
        int[] due = {129, 500, 0};
        for (int what = 0; what <= 2; what++) {
            Due.is("field(0, " + what + ")", x.field(0, what), due[what]);
            Due.is("field(7, " + what + ")", x.field(7, what), due[what]);
        }
        for (int what : new int[] {-1, 3, 32, LEAST, MOST}) {
            Due.is("field(0, " + what + ")", x.field(0, what), Due.OUTSIDE);
            for (int no : NO_BUNDLE) {
                Due.is("field(" + no + ", " + what + ")", x.field(no, what), Due.UNKNOWN);
            }
        }
        for (int no : NO_BUNDLE) {
            Due.is("field(" + no + ", 0)", x.field(no, 0), Due.UNKNOWN);
        }
    }

    private static void fieldOfOneAndOfEight() {
        BentFurrows x = new BentFurrows();
        int[] order = {3, 7, 0, 5, 1, 6, 2, 4};
        int members = 0;
        for (int i = 0; i < 8; i++) {
            Due.tell(x, "bundle " + order[i] + " " + 60 * i + " 0 east 1 5 50 9 right 0");
            members |= 1 << order[i];
            Due.is("fields()", x.fields(), 1);
            for (int j = 0; j <= i; j++) {
                Due.is("field(" + order[j] + ", 0)", x.field(order[j], 0), members);
                Due.is("field(" + order[j] + ", 1)", x.field(order[j], 1), 250 * (i + 1));
            }
        }
        Due.tell(x, "gap 9");
        Due.is("fields() of eight apart", x.fields(), 8);
        for (int bundle = 0; bundle < 8; bundle++) {
            Due.is("field(" + bundle + ", 0)", x.field(bundle, 0), 1 << bundle);
            Due.is("field(" + bundle + ", 1)", x.field(bundle, 1), 250);
        }
    }

    private static void fieldByOthers() {
        BentFurrows x = Due.told("bundle 0 0 0 east 1 5 50 9 left 0;bundle 1 120 0 east 1 5 50 9 left 0;bundle 2 400 0 east 1 5 50 9 left 0");
        Due.is("three fields", x.fields(), 3);
        Due.tell(x, "bundle 7 60 0 east 1 5 50 9 left 0");
        Due.is("joined by a fourth", x.fields(), 2);
        Due.is("field(1, 0)", x.field(1, 0), 131);
        Due.is("field(2, 0)", x.field(2, 0), 4);
        Due.is("not joined themselves", x.joined(0, 1), 0);
    }

    private static void fieldOfMostYards() {
        BentFurrows x = new BentFurrows();
        // a row of eight this long would not fit the ground: four lie in each of two places
        for (int bundle = 0; bundle < 8; bundle++) {
            Due.tell(x, "bundle " + bundle + " " + 500 * (bundle % 2) + " 0 east 30 20 500 40 right 60");
        }
        Due.is("one field", x.fields(), 1);
        Due.is("field(0, 0)", x.field(0, 0), 255);
        Due.is("field(7, 1)", x.field(7, 1), 2400000);
        Due.is("ploughed(0, 1)", x.ploughed(0, 1), 2400000);
        Due.is("ploughed(2000, 0)", x.ploughed(2000, 0), 2400000);
        Due.is("peak(1)", x.peak(1), 2400000);
        BentFurrows least = Due.told("bundle 7 0 0 east 1 1 1 0 left 0");
        Due.is("field(7, 1)", least.field(7, 1), 1);
    }

    private static void firstOfAField() {
        BentFurrows x = joinedAndAMark();
        Due.tell(x, "year 0 700 2000;year 7 600 650");
        Due.is("the least", x.field(0, 2), 600);
        Due.tell(x, "year 0 599 2000");
        Due.is("the least is that of the other", x.field(7, 2), 599);
        Due.tell(x, "year 0 700 2000");
        Due.tell(x, "over 7 8;year 8 640 2000");
        Due.is("by what lies under it", x.field(0, 2), 641);
        Due.tell(x, "year 0 2000 2000;year 7 2000 2000;year 8 1999 2000");
        Due.is("the greatest", x.field(7, 2), 2000);
        Due.tell(x, "year 8 2000 2000");
        Due.is("no way", x.field(7, 2), Due.NONE);
        Due.is("no way: its bundles", x.field(7, 0), 129);
        Due.is("no way: its yards", x.field(7, 1), 500);
        Due.is("OUTSIDE ahead of NONE", x.field(7, 3), Due.OUTSIDE);
        Due.tell(x, "year 8 0 0;year 7 0 2000");
        Due.is("one above 0", x.field(0, 2), 1);
    }

    private static void fieldsOfNoneUpToEight() {
        BentFurrows x = new BentFurrows();
        Due.is("none", x.fields(), 0);
        Due.tell(x, "mark 8 0 0 1 1");
        Due.is("a mark is no field", x.fields(), 0);
        for (int bundle = 0; bundle < 8; bundle++) {
            Due.tell(x, "bundle " + bundle + " 0 0 east 1 1 1 " + bundle + " left 0");
            Due.is("fields()", x.fields(), bundle + 1);
        }
    }

    // ---- promise 18

    private static void ploughedNumbers() {
        BentFurrows x = Due.told("bundle 7 0 0 east 1 1 9 0 left 0");
        for (int year : new int[] {0, 1, 1999, 2000}) {
            Due.is("ploughed(" + year + ", 1)", x.ploughed(year, 1), 9);
            Due.is("ploughed(" + year + ", 0)", x.ploughed(year, 0), year == 2000 ? 9 : 0);
        }
        for (int year : new int[] {-1, 2001, 4000, LEAST, MOST}) {
            for (int what : new int[] {LEAST, -1, 0, 1, 2, MOST}) {
                Due.is("ploughed(" + year + ", " + what + ")", x.ploughed(year, what), Due.OUTSIDE);
            }
        }
        for (int what : new int[] {LEAST, -1, 2, MOST}) {
            Due.is("ploughed(0, " + what + ")", x.ploughed(0, what), Due.OUTSIDE);
            Due.is("ploughed(2000, " + what + ")", x.ploughed(2000, what), Due.OUTSIDE);
        }
    }

    private static void yards(BentFurrows x, int year, int least, int most) {
        Due.is("ploughed(" + year + ", 0)", x.ploughed(year, 0), least);
        Due.is("ploughed(" + year + ", 1)", x.ploughed(year, 1), most);
    }

    private static void ploughedAtBothEnds() {
        BentFurrows x = Due.told("bundle 0 0 0 east 1 1 9 0 left 0;year 0 500 600");
        yards(x, 499, 0, 0);
        yards(x, 500, 0, 9);
        yards(x, 599, 0, 9);
        yards(x, 600, 9, 9);
        yards(x, 2000, 9, 9);
        Due.tell(x, "year 0 0 0");
        yards(x, 0, 9, 9);
        Due.tell(x, "year 0 2000 2000");
        yards(x, 1999, 0, 0);
        yards(x, 2000, 9, 9);
        yards(Due.told("mark 8 0 0 999 999"), 2000, 0, 0);
    }

    private static void lostFromTheYearOn() {
        BentFurrows x = Due.told("bundle 0 0 0 east 1 1 9 0 left 0;mark 8 0 0 1 1;over 8 0;year 0 100 200;year 8 500 600");
        yards(x, 499, 9, 9);
        yards(x, 500, 0, 9);
        yards(x, 599, 0, 9);
        yards(x, 600, 0, 0);
        yards(x, 2000, 0, 0);
        Due.tell(x, "year 8 2000 2000");
        yards(x, 1999, 9, 9);
        yards(x, 2000, 0, 0);
        Due.tell(x, "year 8 0 2000");
        yards(x, 101, 0, 9);
        yards(x, 1999, 0, 9);
        yards(x, 2000, 0, 0);
    }

    private static void lostByTheLeastOfAllMarks() {
        BentFurrows x = Due.told("bundle 0 0 0 east 1 1 9 0 left 0;year 0 0 0");
        for (int mark = 13; mark >= 8; mark--) {
            Due.tell(x, "mark " + mark + " 0 0 1 1;over " + mark + " 0;year " + mark + " " + 100 * mark + " " + (2000 - 10 * (14 - mark)));
            yards(x, 100 * mark - 1, 9, 9);
            yards(x, 100 * mark, 0, 9);
            yards(x, 1999 - 10 * (14 - mark), 0, 9);
            yards(x, 2000 - 10 * (14 - mark), 0, 0);
        }
    }

    /** "a MARK over it (told pair)": not one by others, not a bundle, not one that is not told. */
    private static void lostByToldPairsOnly() {
        BentFurrows x = Due.told("bundle 0 0 0 east 1 1 9 0 left 0;bundle 1 0 0 north 1 1 20 0 left 0;mark 9 0 0 1 1",
                "over 1 0;over 9 1;over 8 0;year 0 0 0;year 1 50 50;year 9 100 100;year 8 10 10");
        yards(x, 99, 29, 29);
        yards(x, 100, 9, 9);
        yards(x, 2000, 9, 9);
        Due.tell(x, "mark 8 0 0 1 1");
        yards(x, 9, 9, 9);
        yards(x, 10, 0, 0);
        yards(x, 50, 20, 20);
        yards(x, 100, 0, 0);
        BentFurrows under = Due.told("bundle 0 0 0 east 1 1 9 0 left 0;mark 9 0 0 1 1;over 0 9;year 0 50 50;year 9 20 20");
        yards(under, 2000, 9, 9);
    }

    /** At the least a MARK may come as early as its bundle's latest year, and nothing is ploughed then. */
    private static void lostAheadOfItsYear() {
        BentFurrows x = Due.told("bundle 0 0 0 east 1 1 9 0 left 0;mark 8 0 0 1 1;over 8 0;year 0 100 300;year 8 300 400");
        yards(x, 99, 0, 0);
        yards(x, 100, 0, 9);
        yards(x, 300, 0, 9);
        yards(x, 399, 0, 9);
        yards(x, 400, 0, 0);
        Due.tell(x, "year 8 301 400");
        yards(x, 300, 9, 9);
        yards(x, 301, 0, 9);
    }

    // ---- promise 19

    private static void peakNumbers() {
        BentFurrows x = Due.told("bundle 0 0 0 east 1 1 9 0 left 0;year 0 500 600");
        Due.is("peak(0)", x.peak(0), 500);
        Due.is("peak(1)", x.peak(1), 9);
        for (int what : new int[] {-1, 2, LEAST, MOST}) {
            Due.is("peak(" + what + ")", x.peak(what), Due.OUTSIDE);
        }
    }

    private static void peak(BentFurrows x, int year, int yards) {
        Due.is("peak(0)", x.peak(0), year);
        Due.is("peak(1)", x.peak(1), yards);
    }

    private static void peakOfNoneAndMost() {
        peak(new BentFurrows(), 0, 0);
        peak(Due.told("mark 8 0 0 1 1;year 8 500 600"), 0, 0);
        peak(Due.told("bundle 0 0 0 east 30 20 500 0 left 0"), 0, 300000);
        peak(Due.told("bundle 0 0 0 east 1 1 1 0 left 0"), 0, 1);
    }

    private static void peakTheFirstOfSeveral() {
        BentFurrows x = Due.told("bundle 0 0 0 east 1 1 9 0 left 0;bundle 7 0 0 north 1 1 9 0 left 0",
                "mark 8 0 0 1 1;mark 9 0 0 1 1;over 8 0;over 9 7",
                "year 7 100 100;year 9 200 200;year 0 300 300;year 8 400 400");
        peak(x, 100, 9);
        Due.tell(x, "year 9 300 300");
        peak(x, 100, 9);
        Due.tell(x, "year 9 301 301");
        peak(x, 300, 18);
        Due.tell(x, "year 9 200 200;bundle 0 0 0 east 1 1 10 0 left 0");
        peak(x, 300, 10);
        Due.tell(x, "bundle 0 0 0 east 1 1 9 0 left 0;year 7 300 300;year 9 400 400;year 0 100 100;year 8 200 200");
        peak(x, 100, 9);
    }

    private static void peakAtBothEnds() {
        BentFurrows x = Due.told("bundle 0 0 0 east 1 1 9 0 left 0;year 0 2000 2000");
        peak(x, 2000, 9);
        Due.tell(x, "year 0 1 1");
        peak(x, 1, 9);
        Due.tell(x, "year 0 2000 2000");
        Due.tell(x, "bundle 1 0 0 north 1 1 9 0 left 0;mark 8 0 0 1 1;over 8 1;year 8 1 1");
        peak(x, 0, 9);
        Due.tell(x, "year 8 2000 2000");
        peak(x, 0, 9);
        Due.tell(x, "year 0 1999 1999");
        peak(x, 1999, 18);
    }

    /** "NONE: there is no way", of all that asks for years; the rest is as it was. */
    private static void noWay() {
        BentFurrows x = joinedAndAMark();
        Due.tell(x, "mark 9 0 0 1 1;year 8 5 5;year 9 5 5;over 8 9");
        for (int year : new int[] {0, 5, 2000}) {
            yards(x, year, Due.NONE, Due.NONE);
        }
        peak(x, Due.NONE, Due.NONE);
        Due.is("ploughed(2001, 0)", x.ploughed(2001, 0), Due.OUTSIDE);
        Due.is("ploughed(-1, 1)", x.ploughed(-1, 1), Due.OUTSIDE);
        Due.is("ploughed(0, 2)", x.ploughed(0, 2), Due.OUTSIDE);
        Due.is("peak(2)", x.peak(2), Due.OUTSIDE);
        Due.is("field(0, 2)", x.field(0, 2), Due.NONE);
        Due.is("field(0, 1)", x.field(0, 1), 500);
        Due.is("joined(0, 7)", x.joined(0, 7), 1);
        Due.is("later(0, 7)", x.later(0, 7), 256);
        Due.is("odds(0, 7, 0)", x.odds(0, 7, 0), 1);
        Due.is("fields()", x.fields(), 1);
        Due.tell(x, "year 8 6 6");
        yards(x, 2000, 500, 500);
        peak(x, 0, 500);
    }
}
