/** Promises 25 to 27: pictures of evenings, what is flat, what stands, where to look. */
public final class PicturesTest {
    private static final String BUNDLES = "bundle 0 0 0 east 1 1 1 0 left 10;bundle 1 0 0 north 1 1 1 0 left 20;"
            + "bundle 2 0 0 east 1 1 1 0 left 30;bundle 7 0 0 north 1 1 1 0 left 40";

    public static void main(String[] args) {
        picture();
        shows();
        flatAndStanding();
        look();
        Due.end();
    }

    private static void picture() {
        BentFurrows x = new BentFurrows();
        int[][] refused = {{-1, 0, 0}, {2, 0, 0}, {0, -1, 0}, {0, 61, 0}, {0, 0, -1}, {0, 0, 256}};
        for (int[] r : refused) {
            Due.is("picture", x.picture(r[0], r[1], r[2]), Due.OUTSIDE);
        }
        Due.is("none was taken", x.count(6), 0);
        for (int i = 1; i <= 8; i++) {
            Due.is("picture " + i, x.picture(i % 2, 60, 255), i);
        }
        Due.is("one too many", x.picture(0, 0, 0), Due.FULL);
        Due.is("OUTSIDE ahead of FULL", x.picture(0, 0, 256), Due.OUTSIDE);
        Due.is("eight stay", x.count(6), 8);
    }

    private static void shows() {
        BentFurrows x = Due.told(BUNDLES);
        Due.is("no picture", x.shows(0, 0), Due.UNKNOWN);
        x.picture(0, 20, 0);
        x.picture(1, 11, 255);
        x.picture(0, 21, 2);
        int[][] due = {{0, 1, 0, 1}, {0, 0, 1, 0}, {0, 0, 0, 1}};
        int[] bundles = {0, 1, 2, 7};
        for (int p = 0; p < 3; p++) {
            for (int i = 0; i < 4; i++) {
                Due.is("shows(" + p + ", " + bundles[i] + ")", x.shows(p, bundles[i]), due[p][i]);
            }
        }
        Due.is("shows(3, 0)", x.shows(3, 0), Due.UNKNOWN);
        Due.is("shows(-1, 0)", x.shows(-1, 0), Due.UNKNOWN);
        Due.is("shows(0, 3)", x.shows(0, 3), Due.UNKNOWN);
        Due.is("shows(0, 8)", x.shows(0, 8), Due.UNKNOWN);
        Due.is("shows(0, -1)", x.shows(0, -1), Due.UNKNOWN);
    }

    private static void flatAndStanding() {
        BentFurrows x = Due.told(BUNDLES);
        seen(x, 0, 0);
        x.picture(0, 21, 0);
        seen(x, 1 << 7, 0);
        x.picture(0, 20, 1 << 1 | 1 << 0 | 1 << 3);
        seen(x, 1 << 7, 1 << 1);
        x.picture(0, 41, 1 << 7);
        seen(x, 1 << 7, 1 << 1);
        x.picture(1, 0, 1 << 7 | 1 << 2);
        seen(x, 1 << 7 | 1 << 0, 1 << 1 | 1 << 2);
        x.picture(0, 40, 1 << 7);
        seen(x, 1 << 0, 1 << 1 | 1 << 2 | 1 << 7);
        Due.tell(x, "bundle 3 0 0 north 1 1 1 0 left 20");
        seen(x, 1 << 0, 1 << 1 | 1 << 2 | 1 << 3 | 1 << 7);
        Due.is("seen(3)", x.seen(3), Due.OUTSIDE);
        Due.is("seen(-1)", x.seen(-1), Due.OUTSIDE);
    }

    private static void seen(BentFurrows x, int flat, int standing) {
        Due.is("seen(0)", x.seen(0), flat);
        Due.is("seen(1)", x.seen(1), standing);
    }

    private static void look() {
        BentFurrows x = new BentFurrows();
        Due.is("none: EAST", x.seen(2), 0);
        Due.tell(x, "bundle 0 0 0 east 1 1 1 0 left 0");
        Due.is("one east: by NORTH", x.seen(2), 1);
        Due.tell(x, "bundle 1 0 0 north 1 1 1 0 left 50");
        Due.is("as many: EAST", x.seen(2), 0);
        Due.tell(x, "bundle 2 0 0 east 1 1 1 0 left 40");
        Due.is("more east: NORTH", x.seen(2), 1);
        x.picture(1, 40, 0);
        Due.is("one is flat", x.seen(2), 0);
        Due.tell(x, "bundle 3 0 0 east 1 1 1 0 left 0");
        Due.is("two that no picture should show", x.seen(2), 1);
        x.picture(1, 0, 255);
        Due.is("all stand", x.seen(2), 0);
        x.picture(0, 0, 255);
        Due.is("none are left", x.seen(2), 0);
    }
}
