/** The bounds that part 3 and the promises 25 to 27 name: pictures, what is flat, what stands, where to look. */
public final class PictureBoundsTest {
    private static final int LEAST = Integer.MIN_VALUE;
    private static final int MOST = Integer.MAX_VALUE;
    private static final int EAST = 0;
    private static final int NORTH = 1;

    public static void main(String[] args) {
        pictureNumbers();
        picturesUpToEight();
        pictureRefusedKeepsAll();
        showsNumbers();
        showsTheOtherWay();
        showsHighEnough();
        showsWhatIsFlatToo();
        seenNumbers();
        seenOfNone();
        flatAndStanding();
        seenWithoutBeingDue();
        seenOneOfEight();
        seenOfBundlesNotTold();
        seenOfAllBundles();
        bundleToldAnew();
        lookAsMany();
        lookHighOrNot();
        lookOfThoseThatAreNeither();
        lookOfNoneLeft();
        Due.end();
    }

    private static String bundle(int bundle, int way, int high) {
        return "bundle " + bundle + " 0 0 " + (way == EAST ? "east" : "north") + " 1 1 1 0 left " + high;
    }

    // ---- promise 25

    private static void pictureNumbers() {
        for (int sun : new int[] {0, 1}) {
            for (int high : new int[] {0, 60}) {
                for (int seen : new int[] {0, 255}) {
                    BentFurrows x = new BentFurrows();
                    Due.is("picture(" + sun + ", " + high + ", " + seen + ")", x.picture(sun, high, seen), 1);
                    Due.is("count(6)", x.count(6), 1);
                }
            }
        }
        for (int sun : new int[] {-1, 2, 3, LEAST, MOST}) {
            refused(sun, 0, 0);
            refused(sun, 61, 256);
        }
        for (int high : new int[] {-1, 61, 100, LEAST, MOST}) {
            refused(0, high, 0);
            refused(1, high, 255);
            refused(1, high, -1);
        }
        for (int seen : new int[] {-1, 256, 257, 511, LEAST, MOST}) {
            refused(0, 0, seen);
            refused(1, 60, seen);
        }
    }

    private static void refused(int sun, int high, int seen) {
        BentFurrows x = new BentFurrows();
        Due.is("picture(" + sun + ", " + high + ", " + seen + ")", x.picture(sun, high, seen), Due.OUTSIDE);
        Due.is("count(6)", x.count(6), 0);
    }

    /** "PICTURES are 8 at most." */
    private static void picturesUpToEight() {
        BentFurrows x = Due.told(bundle(0, NORTH, 0));
        for (int n = 1; n <= 8; n++) {
            Due.is("picture", x.picture(EAST, n == 8 ? 0 : 1, 0), n);
            Due.is("count(6)", x.count(6), n);
            Due.is("the last one", x.shows(n - 1, 0), n == 8 ? 1 : 0);
            Due.is("one that is not there", x.shows(n, 0), Due.UNKNOWN);
            Due.is("flat", x.seen(0), n == 8 ? 1 : 0);
        }
        for (int again = 0; again < 3; again++) {
            Due.is("the ninth", x.picture(EAST, 0, 1), Due.FULL);
            Due.is("count(6)", x.count(6), 8);
            Due.is("nothing has changed", x.seen(0), 1);
            Due.is("nothing has changed", x.seen(1), 0);
            Due.is("shows(8, 0)", x.shows(8, 0), Due.UNKNOWN);
        }
        Due.is("OUTSIDE ahead of FULL", x.picture(2, 0, 0), Due.OUTSIDE);
        Due.is("OUTSIDE ahead of FULL", x.picture(0, 61, 0), Due.OUTSIDE);
        Due.is("OUTSIDE ahead of FULL", x.picture(0, 0, 256), Due.OUTSIDE);
    }

    private static void pictureRefusedKeepsAll() {
        BentFurrows x = Due.told(bundle(0, NORTH, 30), bundle(7, NORTH, 30));
        x.picture(EAST, 30, 1);
        int[][] refused = {{-1, 0, 255}, {2, 0, 255}, {0, -1, 255}, {0, 61, 255}, {0, 0, -1}, {0, 0, 256}};
        for (int[] r : refused) {
            Due.is("refused", x.picture(r[0], r[1], r[2]), Due.OUTSIDE);
            Due.is("count(6)", x.count(6), 1);
            Due.is("seen(0)", x.seen(0), 128);
            Due.is("seen(1)", x.seen(1), 1);
            Due.is("shows(1, 0)", x.shows(1, 0), Due.UNKNOWN);
        }
        Due.is("the next one is the second", x.picture(EAST, 31, 255), 2);
        Due.is("seen(0)", x.seen(0), 128);
    }

    // ---- promise 26

    private static void showsNumbers() {
        BentFurrows x = Due.told(bundle(0, NORTH, 0), bundle(7, NORTH, 0), "mark 8 0 0 1 1");
        Due.is("no picture", x.shows(0, 0), Due.UNKNOWN);
        x.picture(EAST, 0, 0);
        x.picture(EAST, 0, 0);
        for (int picture = 0; picture <= 1; picture++) {
            Due.is("shows(" + picture + ", 0)", x.shows(picture, 0), 1);
            Due.is("shows(" + picture + ", 7)", x.shows(picture, 7), 1);
            for (int bundle : new int[] {-1, 1, 6, 8, 14, 32, LEAST, MOST}) {
                Due.is("shows(" + picture + ", " + bundle + ")", x.shows(picture, bundle), Due.UNKNOWN);
            }
        }
        for (int picture : new int[] {-1, 2, 7, 8, 32, LEAST, MOST}) {
            Due.is("shows(" + picture + ", 0)", x.shows(picture, 0), Due.UNKNOWN);
            Due.is("shows(" + picture + ", 8)", x.shows(picture, 8), Due.UNKNOWN);
        }
    }

    private static void showsTheOtherWay() {
        for (int sun : new int[] {EAST, NORTH}) {
            for (int way : new int[] {EAST, NORTH}) {
                BentFurrows x = Due.told(bundle(3, way, 60));
                x.picture(sun, 0, 0);
                Due.is("sun " + sun + ", way " + way, x.shows(0, 3), sun == way ? 0 : 1);
            }
        }
    }

    private static void showsHighEnough() {
        for (int enough : new int[] {0, 1, 30, 59, 60}) {
            for (int high : new int[] {0, 1, 29, 30, 31, 59, 60}) {
                BentFurrows x = Due.told(bundle(3, EAST, high));
                x.picture(NORTH, enough, 0);
                Due.is(high + " high, " + enough + " enough", x.shows(0, 3), high >= enough ? 1 : 0);
            }
        }
    }

    private static void showsWhatIsFlatToo() {
        BentFurrows x = Due.told(bundle(3, EAST, 30));
        x.picture(NORTH, 30, 0);
        Due.is("it is flat", x.seen(0), 8);
        Due.is("and should be shown", x.shows(0, 3), 1);
        x.picture(NORTH, 30, 8);
        Due.is("it stands", x.seen(1), 8);
        Due.is("both should", x.shows(0, 3) + x.shows(1, 3), 2);
    }

    // ---- promise 27

    private static void seenNumbers() {
        BentFurrows x = new BentFurrows();
        for (int what : new int[] {-1, 3, 4, 32, LEAST, MOST}) {
            Due.is("seen(" + what + ")", x.seen(what), Due.OUTSIDE);
        }
    }

    private static void seen(String note, BentFurrows x, int flat, int standing) {
        Due.is(note + ": seen(0)", x.seen(0), flat);
        Due.is(note + ": seen(1)", x.seen(1), standing);
    }

    private static void seenOfNone() {
        BentFurrows x = Due.told(bundle(0, EAST, 60));
        seen("no picture", x, 0, 0);
        BentFurrows empty = new BentFurrows();
        empty.picture(EAST, 0, 255);
        empty.picture(NORTH, 0, 255);
        seen("no bundle", empty, 0, 0);
    }

    /** "FLAT is a BUNDLE that one PICTURE should show, and none has seen that should." */
    private static void flatAndStanding() {
        BentFurrows x = Due.told(bundle(5, EAST, 30));
        x.picture(EAST, 0, 32);
        seen("none should show it", x, 0, 0);
        x.picture(NORTH, 31, 32);
        seen("one too high", x, 0, 0);
        x.picture(NORTH, 30, 0);
        seen("one should, and has not seen it", x, 32, 0);
        x.picture(NORTH, 31, 32);
        seen("seen by one that should not", x, 32, 0);
        x.picture(NORTH, 30, 32);
        seen("seen by one that should", x, 0, 32);
        x.picture(NORTH, 0, 0);
        seen("not seen once more", x, 0, 32);
    }

    private static void seenWithoutBeingDue() {
        BentFurrows x = Due.told(bundle(0, EAST, 0), bundle(1, NORTH, 0));
        x.picture(EAST, 1, 255);
        x.picture(NORTH, 1, 255);
        seen("seen, but not high enough", x, 0, 0);
        x.picture(EAST, 0, 1);
        seen("the one that should not be is seen", x, 2, 0);
    }

    private static void seenOneOfEight() {
        for (int one = 0; one < 8; one++) {
            BentFurrows x = Due.told(bundle(2, NORTH, 10));
            for (int picture = 0; picture < 8; picture++) {
                x.picture(EAST, 10, picture == one ? 4 : 251);
            }
            seen("by picture " + one + " alone", x, 0, 4);
        }
        BentFurrows x = Due.told(bundle(2, NORTH, 10));
        for (int picture = 0; picture < 8; picture++) {
            x.picture(EAST, 10, 251);
        }
        seen("by none of eight", x, 4, 0);
    }

    /** "BUNDLES seen (0 .. 255; told or not)". */
    private static void seenOfBundlesNotTold() {
        BentFurrows x = Due.told(bundle(0, NORTH, 10));
        x.picture(EAST, 10, 255);
        seen("the others are not told", x, 0, 1);
        x.picture(NORTH, 10, 0);
        Due.tell(x, bundle(7, NORTH, 10), bundle(6, EAST, 10), bundle(5, NORTH, 9));
        seen("they count when they are told", x, 64, 129);
    }

    private static void seenOfAllBundles() {
        BentFurrows x = new BentFurrows();
        for (int bundle = 0; bundle < 8; bundle++) {
            Due.tell(x, bundle(bundle, bundle % 2, 60));
        }
        x.picture(NORTH, 60, 0);
        seen("all that lie EAST", x, 85, 0);
        x.picture(EAST, 60, 0);
        seen("all", x, 255, 0);
        x.picture(EAST, 60, 255);
        seen("those that lie NORTH stand", x, 85, 170);
        x.picture(NORTH, 0, 255);
        seen("all stand", x, 0, 255);
    }

    private static void bundleToldAnew() {
        BentFurrows x = Due.told(bundle(0, NORTH, 10));
        x.picture(EAST, 10, 0);
        seen("flat", x, 1, 0);
        Due.tell(x, bundle(0, NORTH, 9));
        seen("told anew, too low", x, 0, 0);
        Due.tell(x, bundle(0, EAST, 60));
        seen("told anew, the other way", x, 0, 0);
        Due.is("LOOK", x.seen(2), NORTH);
    }

    private static void lookAsMany() {
        BentFurrows x = new BentFurrows();
        Due.is("none", x.seen(2), EAST);
        int[] ways = {EAST, NORTH, EAST, EAST, NORTH, NORTH, NORTH, EAST};
        int lean = 0;
        for (int bundle = 0; bundle < 8; bundle++) {
            Due.tell(x, bundle(bundle, ways[bundle], 0));
            lean += ways[bundle] == EAST ? 1 : -1;
            Due.is("up to " + bundle, x.seen(2), lean > 0 ? NORTH : EAST);
        }
        Due.is("four of each", lean, 0);
    }

    private static void lookHighOrNot() {
        BentFurrows x = Due.told(bundle(0, EAST, 0), bundle(1, EAST, 0), bundle(2, NORTH, 60));
        Due.is("low ones count", x.seen(2), NORTH);
        x.picture(NORTH, 60, 255);
        Due.is("also where pictures want more", x.seen(2), NORTH);
    }

    private static void lookOfThoseThatAreNeither() {
        BentFurrows x = Due.told(bundle(0, EAST, 50), bundle(1, EAST, 20), bundle(2, NORTH, 10));
        Due.is("two to one", x.seen(2), NORTH);
        x.picture(NORTH, 50, 0);
        Due.is("one is flat: as many", x.seen(2), EAST);
        x.picture(EAST, 10, 4);
        Due.is("one stands", x.seen(2), NORTH);
    }

    private static void lookOfNoneLeft() {
        BentFurrows x = Due.told(bundle(0, EAST, 50), bundle(1, EAST, 20));
        x.picture(NORTH, 0, 1);
        Due.is("one flat, one stands", x.seen(2), EAST);
        seen("both known", x, 2, 1);
    }
}
