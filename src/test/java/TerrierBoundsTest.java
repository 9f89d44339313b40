/** The bounds that part 3 and the promises 20 to 24 name: terriers given to bundles, holders by turns. */
public final class TerrierBoundsTest {
    private static final int LEAST = Integer.MIN_VALUE;
    private static final int MOST = Integer.MAX_VALUE;
    /** Four in a row to the east, 10 yards apart each, with 4, 5, 6, 7 ridges. */
    private static final String ROW = "bundle 0 0 0 east 4 1 50 0 left 0;bundle 1 60 0 east 5 1 50 0 left 0;"
            + "bundle 2 120 0 east 6 1 50 0 left 0;bundle 3 180 0 east 7 1 50 0 left 0";

    public static void main(String[] args) {
        terrierNumbers();
        terrierStrips();
        terrierSets();
        terrierRefusedKeepsAll();
        besideBothWays();
        besideItself();
        besideOneNotTold();
        notToldAnyMore();
        givenNumbers();
        givenOfNone();
        givenWithoutBundles();
        givenAsManyAsBundles();
        givenOneTooMany();
        ridgesAtSlack();
        leastAndGreatestSlack();
        touchAtGap();
        leastAndGreatestGap();
        touchOnlyOfNeighbours();
        likeliestOfSeveral();
        likeliestFewestTogether();
        mostWays();
        holderNumbers();
        holderAnswersWhatItHad();
        holderRefusedKeepsAll();
        roundOfNoneAndOne();
        roundOfEach();
        roundByMultiples();
        whoseNumbers();
        whoseByWhatIsOver();
        whoseNotKnown();
        whoseOfAllTold();
        Due.end();
    }

    private static void given(String note, BentFurrows x, int ways, int differences, int... bundles) {
        Due.is(note + ": given(NONE)", x.given(-1), ways);
        Due.is(note + ": given(-2)", x.given(-2), differences);
        for (int terrier = 0; terrier < 5; terrier++) {
            Due.is(note + ": given(" + terrier + ")", x.given(terrier), terrier < bundles.length ? bundles[terrier] : Due.NONE);
        }
    }

    // ---- promise 20

    private static void terrierNumbers() {
        for (int terrier = 0; terrier <= 4; terrier++) {
            BentFurrows x = new BentFurrows();
            Due.is("terrier(" + terrier + ", 1, 0)", x.terrier(terrier, 1, 0), 1);
            Due.is("count(5)", x.count(5), 1);
        }
        for (int terrier : new int[] {-1, 5, 32, 31, -32, LEAST, MOST}) {
            BentFurrows x = new BentFurrows();
            Due.is("terrier(" + terrier + ", 1, 0)", x.terrier(terrier, 1, 0), Due.UNKNOWN);
            Due.is("UNKNOWN ahead of OUTSIDE", x.terrier(terrier, 31, 0), Due.UNKNOWN);
            Due.is("UNKNOWN ahead of OUTSIDE", x.terrier(terrier, -1, 32), Due.UNKNOWN);
            Due.is("UNKNOWN ahead of OUTSIDE", x.terrier(terrier, 0, -1), Due.UNKNOWN);
            Due.is("count(5)", x.count(5), 0);
        }
    }

    private static void terrierStrips() {
        for (int n : new int[] {0, 1, 15, 29, 30}) {
            BentFurrows x = new BentFurrows();
            Due.is("terrier(4, " + n + ", 0)", x.terrier(4, n, 0), 1);
            Due.is("count(5)", x.count(5), n == 0 ? 0 : 1);
        }
        for (int n : new int[] {-1, 31, 32, 256, LEAST, MOST}) {
            BentFurrows x = new BentFurrows();
            Due.is("terrier(4, " + n + ", 0)", x.terrier(4, n, 0), Due.OUTSIDE);
            Due.is("terrier(4, " + n + ", 32)", x.terrier(4, n, 32), Due.OUTSIDE);
            Due.is("count(5)", x.count(5), 0);
        }
    }

    private static void terrierSets() {
        for (int set = 0; set <= 31; set++) {
            BentFurrows x = new BentFurrows();
            Due.is("terrier(0, 1, " + set + ")", x.terrier(0, 1, set), 1);
            Due.is("terrier(0, 0, " + set + ")", x.terrier(0, 0, set), 1);
        }
        for (int set : new int[] {-1, 32, 33, 63, 256, LEAST, MOST}) {
            BentFurrows x = new BentFurrows();
            Due.is("terrier(0, 1, " + set + ")", x.terrier(0, 1, set), Due.OUTSIDE);
            Due.is("terrier(0, 0, " + set + ")", x.terrier(0, 0, set), Due.OUTSIDE);
            Due.is("count(5)", x.count(5), 0);
        }
    }

    private static void terrierRefusedKeepsAll() {
        BentFurrows x = Due.told(ROW, "slack 99");
        x.terrier(0, 5, 2);
        x.terrier(1, 5, 1);
        given("told", x, 6, 1, 0, 1);
        int[][] refused = {{0, 31, 0}, {0, -1, 0}, {0, 0, 32}, {0, 0, -1}, {1, 5, 32}, {1, 31, 31}, {5, 5, 0}, {-1, 0, 0}};
        for (int[] r : refused) {
            Due.is("refused", x.terrier(r[0], r[1], r[2]), r[0] == 5 || r[0] == -1 ? Due.UNKNOWN : Due.OUTSIDE);
            given("as ahead", x, 6, 1, 0, 1);
            Due.is("count(5)", x.count(5), 2);
        }
    }

    /** "beside a set of TERRIERS (each beside the other then)": whichever of the two was told with it. */
    private static void besideBothWays() {
        for (int one = 0; one < 5; one++) {
            for (int other = 0; other < 5; other++) {
                if (one == other) {
                    continue;
                }
                BentFurrows x = Due.told(ROW, "slack 99");
                x.terrier(other, 5, 0);
                x.terrier(one, 5, 1 << other);
                Due.is("beside", x.given(-1), 6);
                x.terrier(one, 5, 0);
                Due.is("beside none", x.given(-1), 12);
                x.terrier(one, 5, 31);
                Due.is("beside all", x.given(-1), 6);
                x.terrier(other, 5, 31 - (1 << one));
                Due.is("the other one says: beside all but this", x.given(-1), 12);
            }
        }
    }

    private static void besideItself() {
        for (int terrier = 0; terrier < 5; terrier++) {
            BentFurrows x = Due.told(ROW, "slack 99;gap 0");
            x.terrier(terrier, 5, 1 << terrier);
            Due.is("bits of itself do not count", x.given(-1), 4);
            Due.is("given(" + terrier + ")", x.given(terrier), 1);
        }
    }

    private static void besideOneNotTold() {
        BentFurrows x = Due.told(ROW, "slack 99");
        x.terrier(0, 5, 30);
        given("the others are not told", x, 4, 0, 1);
        x.terrier(1, 5, 1);
        given("one is told", x, 6, 1, 0, 1);
        BentFurrows none = Due.told(ROW, "slack 99");
        none.terrier(0, 0, 31);
        none.terrier(1, 5, 0);
        given("not told, beside none", none, 4, 0, Due.NONE, 1);
        none.terrier(0, 5, 0);
        Due.is("told, beside none", none.given(-1), 12);
    }

    /** "n 0: it is not told any more, beside none." */
    private static void notToldAnyMore() {
        BentFurrows x = Due.told(ROW, "slack 99");
        x.terrier(0, 5, 6);
        x.terrier(1, 5, 5);
        x.terrier(2, 5, 3);
        Due.is("three that all touch: no way", x.given(-1), 0);
        Due.is("terrier(1, 0, 31)", x.terrier(1, 0, 31), 1);
        given("without 1", x, 6, 1, 0, Due.NONE, 1);
        Due.is("count(5)", x.count(5), 2);
        Due.is("not told any more, again", x.terrier(1, 0, 0), 1);
        Due.is("count(5)", x.count(5), 2);
        x.terrier(1, 5, 0);
        Due.is("told again, beside none", x.given(-1), 12);
        x.terrier(0, 0, 0);
        x.terrier(1, 0, 0);
        x.terrier(2, 0, 0);
        given("none told", x, 1, 0);
    }

    // ---- promise 21

    private static void givenNumbers() {
        for (int terriers = 0; terriers <= 1; terriers++) {
            BentFurrows x = Due.told(ROW);
            x.terrier(4, terriers, 0);
            for (int what : new int[] {-3, 5, -4, 6, 31, 32, LEAST, MOST}) {
                Due.is("given(" + what + ")", x.given(what), Due.OUTSIDE);
            }
        }
        BentFurrows noWay = new BentFurrows();
        noWay.terrier(0, 1, 0);
        Due.is("OUTSIDE ahead of NONE", noWay.given(5), Due.OUTSIDE);
        Due.is("OUTSIDE ahead of NONE", noWay.given(-3), Due.OUTSIDE);
    }

    private static void givenOfNone() {
        given("new", new BentFurrows(), 1, 0);
        given("bundles alone", Due.told(ROW), 1, 0);
    }

    private static void givenWithoutBundles() {
        BentFurrows x = new BentFurrows();
        x.terrier(4, 1, 0);
        given("no bundles", x, 0, Due.NONE);
        Due.tell(x, "mark 8 0 0 1 1;slack 99");
        given("a mark is no bundle", x, 0, Due.NONE);
        Due.tell(x, "bundle 7 0 0 east 30 1 1 0 left 0");
        given("one bundle", x, 1, 29, -1, -1, -1, -1, 7);
    }

    private static void givenAsManyAsBundles() {
        BentFurrows x = Due.told(ROW, "slack 99");
        for (int terrier = 0; terrier < 4; terrier++) {
            x.terrier(terrier, 7 - terrier, 0);
        }
        given("four to four", x, 24, 0, 3, 2, 1, 0);
    }

    private static void givenOneTooMany() {
        BentFurrows x = Due.told(ROW, "slack 99");
        for (int terrier = 0; terrier < 5; terrier++) {
            x.terrier(terrier, 5, 0);
        }
        given("five to four", x, 0, Due.NONE);
        Due.tell(x, "bundle 7 0 0 north 5 1 5 0 left 0");
        given("five to five", x, 120, 4, 0, 1, 2, 3, 7);
    }

    /** "RIDGES SLACK more or less than STRIPS at most." */
    private static void ridgesAtSlack() {
        for (int ridges = 1; ridges <= 30; ridges++) {
            BentFurrows x = Due.told("bundle 3 0 0 east " + ridges + " 1 1 0 left 0");
            x.terrier(2, 15, 0);
            int apart = Math.abs(15 - ridges);
            boolean fits = apart <= 2;
            given(ridges + " ridges", x, fits ? 1 : 0, fits ? apart : Due.NONE, -1, -1, fits ? 3 : -1);
        }
    }

    private static void leastAndGreatestSlack() {
        int[][] cases = {{0, 30, 30, 1}, {0, 30, 29, 0}, {0, 1, 1, 1}, {0, 1, 2, 0}, {28, 30, 1, 0}, {29, 30, 1, 1}, {29, 1, 30, 1}, {28, 1, 30, 0}, {99, 1, 30, 1}};
        for (int[] c : cases) {
            BentFurrows x = Due.told("bundle 3 0 0 east " + c[2] + " 1 1 0 left 0;slack " + c[0]);
            x.terrier(0, c[1], 0);
            Due.is("slack " + c[0] + ", " + c[1] + " strips, " + c[2] + " ridges", x.given(-1), c[3]);
        }
    }

    /** "TOUCH (no more than GAP yards between them in x and in y)". */
    private static void touchAtGap() {
        int[] offsets = {-31, -30, -29, -1, 0, 9, 10, 29, 30, 31};
        for (int dx : offsets) {
            for (int dy : offsets) {
                BentFurrows x = Due.told("slack 99;bundle 0 100 100 east 10 1 10 0 left 0",
                        "bundle 7 " + (100 + dx) + " " + (100 + dy) + " north 5 2 10 0 right 0");
                x.terrier(1, 1, 16);
                x.terrier(4, 1, 2);
                boolean touch = Math.abs(dx) <= 30 && Math.abs(dy) <= 30;
                Due.is("touch at " + dx + ", " + dy, x.given(-1), touch ? 2 : 0);
            }
        }
    }

    private static void leastAndGreatestGap() {
        int[][] cases = {{0, 0, 1}, {0, 1, 0}, {99, 99, 1}, {99, 100, 0}};
        for (int[] c : cases) {
            for (int north = 0; north <= 1; north++) {
                int from = 1 + c[1];
                BentFurrows x = Due.told("slack 99;gap " + c[0] + ";bundle 0 0 0 east 1 1 1 0 left 0",
                        "bundle 1 " + (north == 0 ? from + " 0" : "0 " + from) + " east 1 1 1 0 left 0");
                x.terrier(0, 1, 2);
                x.terrier(1, 1, 1);
                Due.is("gap " + c[0] + ", " + c[1] + " yards", x.given(-1), 2 * c[2]);
            }
        }
    }

    private static void touchOnlyOfNeighbours() {
        BentFurrows x = Due.told("slack 99;bundle 0 0 0 east 1 1 1 0 left 0;bundle 1 999 999 east 1 1 1 0 left 0");
        x.terrier(0, 1, 0);
        x.terrier(1, 1, 0);
        Due.is("far apart, beside none", x.given(-1), 2);
        x.terrier(1, 1, 1);
        Due.is("far apart, beside one another", x.given(-1), 0);
    }

    /** "of several the first (by TERRIERS)." */
    private static void likeliestOfSeveral() {
        BentFurrows x = new BentFurrows();
        for (int bundle = 7; bundle >= 0; bundle--) {
            Due.tell(x, "bundle " + bundle + " 0 0 east 5 1 5 0 left 0");
        }
        for (int terrier = 4; terrier >= 0; terrier--) {
            x.terrier(terrier, 5, 0);
        }
        given("all alike", x, 6720, 0, 0, 1, 2, 3, 4);
        x.terrier(0, 0, 0);
        x.terrier(2, 0, 0);
        given("three of five", x, 336, 0, -1, 0, -1, 1, 2);
        Due.tell(x, "bundle 0 0 0 east 6 1 5 0 left 0");
        given("the first one differs", x, 336, 0, -1, 1, -1, 2, 3);
    }

    private static void likeliestFewestTogether() {
        BentFurrows x = Due.told("slack 99;bundle 0 0 0 east 10 1 5 0 left 0;bundle 1 0 0 east 20 1 5 0 left 0");
        x.terrier(0, 10, 0);
        x.terrier(1, 1, 0);
        given("10 and 1: 0 + 19, 10 + 9", x, 2, 19, 0, 1);
        x.terrier(0, 12, 0);
        x.terrier(1, 9, 0);
        given("12 and 9: 2 + 11, 8 + 1", x, 2, 9, 1, 0);
        x.terrier(0, 15, 0);
        x.terrier(1, 15, 0);
        given("as many either way", x, 2, 10, 0, 1);
        Due.tell(x, "bundle 0 0 0 east 30 1 5 0 left 0;bundle 1 0 0 east 30 1 5 0 left 0");
        x.terrier(0, 1, 0);
        x.terrier(1, 1, 0);
        given("the most differences of two", x, 2, 58, 0, 1);
    }

    private static void mostWays() {
        BentFurrows x = new BentFurrows();
        for (int bundle = 0; bundle < 8; bundle++) {
            Due.tell(x, "bundle " + bundle + " 999 999 north 30 20 500 0 left 0");
        }
        Due.tell(x, "slack 99");
        for (int terrier = 0; terrier < 5; terrier++) {
            x.terrier(terrier, 1, 31);
        }
        given("8 * 7 * 6 * 5 * 4", x, 6720, 145, 0, 1, 2, 3, 4);
    }

    // ---- promise 22

    private static void holderNumbers() {
        for (int strip : new int[] {0, 29}) {
            for (int holder : new int[] {0, 9}) {
                BentFurrows x = new BentFurrows();
                Due.is("holder(" + strip + ", " + holder + ")", x.holder(strip, holder), Due.NONE);
                Due.is("whose(" + strip + ")", x.whose(strip), holder);
            }
        }
        for (int strip : new int[] {-1, 30, 31, 99, LEAST, MOST}) {
            for (int holder : new int[] {LEAST, -2, -1, 0, 9, 10, MOST}) {
                Due.is("holder(" + strip + ", " + holder + ")", new BentFurrows().holder(strip, holder), Due.OUTSIDE);
            }
        }
        for (int holder : new int[] {-2, -3, 10, 32, LEAST, MOST}) {
            Due.is("holder(0, " + holder + ")", new BentFurrows().holder(0, holder), Due.OUTSIDE);
            Due.is("holder(29, " + holder + ")", new BentFurrows().holder(29, holder), Due.OUTSIDE);
        }
    }

    private static void holderAnswersWhatItHad() {
        BentFurrows x = new BentFurrows();
        for (int strip = 0; strip < 30; strip++) {
            int had = Due.NONE;
            for (int holder : new int[] {-1, 0, 0, 9, 5, -1, -1, strip % 10}) {
                Due.is("holder(" + strip + ", " + holder + ")", x.holder(strip, holder), had);
                had = holder;
            }
        }
        for (int strip = 0; strip < 30; strip++) {
            Due.is("all thirty are kept", x.holder(strip, -1), strip % 10);
        }
        for (int strip = 0; strip < 30; strip++) {
            Due.is("none is told any more", x.holder(strip, -1), Due.NONE);
        }
    }

    private static void holderRefusedKeepsAll() {
        BentFurrows x = new BentFurrows();
        for (int strip = 0; strip < 30; strip++) {
            x.holder(strip, strip % 7);
        }
        for (int strip : new int[] {LEAST, -1, 0, 15, 29, 30, MOST}) {
            for (int holder : new int[] {LEAST, -2, 10, MOST}) {
                Due.is("refused", x.holder(strip, holder), Due.OUTSIDE);
            }
        }
        Due.is("round()", x.round(), 7);
        for (int strip = 0; strip < 30; strip++) {
            Due.is("as ahead", x.holder(strip, 0), strip % 7);
        }
    }

    // ---- promises 23, 24

    private static void roundOfNoneAndOne() {
        Due.is("none", new BentFurrows().round(), 1);
        for (int strip = 0; strip < 30; strip++) {
            BentFurrows x = new BentFurrows();
            x.holder(strip, 9);
            Due.is("one", x.round(), 1);
            x.holder(strip, -1);
            Due.is("none again", x.round(), 1);
        }
    }

    /** A row in which strip 0 alone has a holder of its own comes back only as far as it does. */
    private static void roundOfEach() {
        for (int round = 1; round <= 30; round++) {
            BentFurrows x = new BentFurrows();
            for (int strip = 0; strip < 30; strip++) {
                x.holder(strip, strip % round == 0 ? 1 : 0);
            }
            Due.is("round of " + round, x.round(), round);
            for (int strip = 0; strip <= 99; strip++) {
                Due.is("whose(" + strip + ") by " + round, x.whose(strip), strip % round == 0 ? 1 : 0);
            }
        }
    }

    /** "p apart, or a multiple of it". */
    private static void roundByMultiples() {
        for (int apart = 1; apart < 30; apart++) {
            BentFurrows x = new BentFurrows();
            x.holder(0, 3);
            x.holder(apart, 4);
            int least = 1;
            while (apart % least == 0) {
                least++;
            }
            Due.is("unlike " + apart + " apart", x.round(), least);
            x.holder(apart, 3);
            Due.is("alike " + apart + " apart", x.round(), 1);
        }
    }

    private static void whoseNumbers() {
        BentFurrows x = new BentFurrows();
        x.holder(0, 6);
        Due.is("whose(0)", x.whose(0), 6);
        Due.is("whose(99)", x.whose(99), 6);
        for (int strip : new int[] {-1, 100, 101, 128, LEAST, MOST}) {
            Due.is("whose(" + strip + ")", x.whose(strip), Due.OUTSIDE);
            Due.is("OUTSIDE ahead of NONE", new BentFurrows().whose(strip), Due.OUTSIDE);
        }
    }

    private static void whoseByWhatIsOver() {
        BentFurrows x = new BentFurrows();
        for (int strip = 23; strip < 30; strip++) {
            x.holder(strip, strip - 20);
        }
        Due.is("round()", x.round(), 7);
        for (int strip = 0; strip <= 99; strip++) {
            Due.is("whose(" + strip + ")", x.whose(strip), 3 + Math.floorMod(strip - 23, 7));
        }
    }

    private static void whoseNotKnown() {
        BentFurrows x = new BentFurrows();
        for (int strip = 0; strip <= 99; strip += 33) {
            Due.is("none told", x.whose(strip), Due.NONE);
        }
        x.holder(0, 0);
        x.holder(1, 1);
        x.holder(4, 4);
        x.holder(2, 2);
        x.holder(3, 2);
        Due.is("round()", x.round(), 5);
        x.holder(3, -1);
        Due.is("round()", x.round(), 5);
        Due.is("whose(3)", x.whose(3), Due.NONE);
        Due.is("whose(98)", x.whose(98), Due.NONE);
        Due.is("whose(99)", x.whose(99), 4);
    }

    private static void whoseOfAllTold() {
        BentFurrows x = new BentFurrows();
        for (int strip = 0; strip < 30; strip++) {
            x.holder(strip, strip < 29 ? 0 : 9);
        }
        Due.is("round()", x.round(), 30);
        for (int strip = 0; strip <= 99; strip++) {
            Due.is("whose(" + strip + ")", x.whose(strip), strip % 30 == 29 ? 9 : 0);
        }
    }
}
