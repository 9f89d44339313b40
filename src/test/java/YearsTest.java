/** Promises 8 to 12: teams, spans, rings, stacks, what lies over what. */
public final class YearsTest {
    private static final String FOUR_MARKS = "mark 8 0 0 1 1;mark 9 0 0 1 1;mark 10 0 0 1 1;mark 11 0 0 1 1";
    private static final String THREE_BUNDLES =
            "bundle 0 0 0 east 1 1 1 5 left 0;bundle 1 0 0 east 1 1 1 9 left 0;bundle 2 0 0 east 1 1 1 40 left 0";

    public static void main(String[] args) {
        teams();
        spanByTelling();
        spanByTeams();
        spanByOver();
        spanWithoutAWay();
        ring();
        stack();
        over();
        notTold();
        mostPairs();
        Due.end();
    }

    private static void teams() {
        BentFurrows x = Due.told(THREE_BUNDLES);
        Due.is("no teams", x.teams(0), 0);
        Due.tell(x, "team 1 5 5 0 0;team 2 0 4 0 0;team 3 6 40 0 0;team 12 0 40 0 0;team 4 5 9 0 0");
        Due.is("teams(0)", x.teams(0), 1 << 1 | 1 << 4 | 1 << 12);
        Due.is("teams(1)", x.teams(1), 1 << 3 | 1 << 4 | 1 << 12);
        Due.is("teams(2)", x.teams(2), 1 << 3 | 1 << 12);
        Due.tell(x, "team 12 6 6 0 0");
        Due.is("a team told anew", x.teams(0), 1 << 1 | 1 << 4);
        Due.is("teams(3)", x.teams(3), Due.UNKNOWN);
        Due.is("teams(8)", x.teams(8), Due.UNKNOWN);
        Due.is("teams(-1)", x.teams(-1), Due.UNKNOWN);
    }

    private static void spanByTelling() {
        BentFurrows x = Due.told(FOUR_MARKS, "year 8 100 200;year 9 7 7");
        span(x, 8, 100, 200);
        span(x, 9, 7, 7);
        span(x, 10, 0, 2000);
        Due.tell(x, "year 8 0 2000;year 9 8 9;year 9 300 400");
        span(x, 8, 0, 2000);
        span(x, 9, 300, 400);
        Due.is("span(8, 2)", x.span(8, 2), Due.OUTSIDE);
        Due.is("span(8, -1)", x.span(8, -1), Due.OUTSIDE);
        Due.is("span(12, 0)", x.span(12, 0), Due.UNKNOWN);
        Due.is("span(12, 2)", x.span(12, 2), Due.UNKNOWN);
        Due.is("span(14, 0)", x.span(14, 0), Due.UNKNOWN);
        Due.is("span(-1, 0)", x.span(-1, 0), Due.UNKNOWN);
    }

    private static void spanByTeams() {
        BentFurrows x = Due.told(THREE_BUNDLES, "team 1 5 9 700 900;team 2 5 5 1100 1300");
        span(x, 0, 700, 1300);
        span(x, 1, 700, 900);
        span(x, 2, 0, 2000);
        Due.tell(x, "year 0 900 1250;year 1 600 2000");
        span(x, 0, 900, 1250);
        span(x, 1, 700, 900);
        Due.tell(x, "year 0 1000 1000");
        span(x, 0, 1000, 1000);
        Due.tell(x, "year 1 901 2000");
        span(x, 0, Due.NONE, Due.NONE);
        span(x, 2, Due.NONE, Due.NONE);
    }

    private static void spanByOver() {
        BentFurrows x = Due.told(FOUR_MARKS, "over 8 9;over 9 10;over 8 11;year 10 50 60;year 11 100 2000;year 8 0 150");
        span(x, 10, 50, 60);
        span(x, 9, 51, 149);
        span(x, 8, 101, 150);
        span(x, 11, 100, 149);
        Due.tell(x, "year 9 0 52");
        span(x, 10, 50, 51);
        span(x, 9, 51, 52);
        Due.tell(x, "year 9 0 51");
        span(x, 10, 50, 50);
        span(x, 9, 51, 51);
        span(x, 8, 101, 150);
        Due.tell(x, "year 9 0 50");
        span(x, 8, Due.NONE, Due.NONE);
    }

    private static void spanWithoutAWay() {
        BentFurrows x = Due.told(FOUR_MARKS, "over 8 9;year 8 5 5;year 9 5 5");
        span(x, 8, Due.NONE, Due.NONE);
        span(x, 11, Due.NONE, Due.NONE);
        Due.is("span(11, 2)", x.span(11, 2), Due.OUTSIDE);
        Due.tell(x, "year 9 0 4");
        span(x, 8, 5, 5);
        span(x, 9, 0, 4);
        Due.tell(x, "over 9 8");
        span(x, 11, Due.NONE, Due.NONE);
    }

    private static void ring() {
        BentFurrows x = Due.told(FOUR_MARKS, "over 8 9;over 9 10;over 10 11");
        Due.is("a row is no ring", x.ring(), 0);
        Due.tell(x, "over 10 8");
        Due.is("three in a ring", x.ring(), 1 << 8 | 1 << 9 | 1 << 10);
        Due.tell(x, "mark 12 0 0 1 1;mark 13 0 0 1 1;over 12 13;over 13 12");
        Due.is("two rings", x.ring(), 1 << 8 | 1 << 9 | 1 << 10 | 1 << 12 | 1 << 13);
        Due.is("stack(NONE)", x.stack(-1), Due.NONE);
        Due.is("stack(0)", x.stack(0), Due.NONE);
        Due.is("stack(-2)", x.stack(-2), Due.OUTSIDE);
    }

    private static void stack() {
        BentFurrows x = Due.told(FOUR_MARKS);
        stack(x, 8);
        Due.tell(x, "over 11 10");
        stack(x, 11, 10);
        Due.tell(x, "over 9 8");
        stack(x, 9, 8);
        Due.tell(x, "over 9 10;over 10 8");
        stack(x, 9, 10, 8);
        Due.tell(x, "bundle 0 0 0 east 1 1 1 0 left 0;over 10 0");
        stack(x, 9, 10, 0);
        Due.tell(x, "bundle 7 0 0 east 1 1 1 0 left 0;over 7 10");
        stack(x, 7, 10, 0);
        Due.is("stack(-2)", x.stack(-2), Due.OUTSIDE);
        Due.is("stack(most)", x.stack(Integer.MAX_VALUE), Due.NONE);
        Due.is("stack(least)", x.stack(Integer.MIN_VALUE), Due.OUTSIDE);
    }

    private static void stack(BentFurrows x, int... things) {
        Due.is("stack(NONE)", x.stack(-1), things.length);
        for (int i = 0; i < things.length; i++) {
            Due.is("stack(" + i + ")", x.stack(i), things[i]);
        }
        Due.is("stack(" + things.length + ")", x.stack(things.length), Due.NONE);
    }

    private static void over() {
        BentFurrows x = Due.told(FOUR_MARKS, "over 11 10;over 10 9;over 9 8");
        for (int upper = 8; upper < 12; upper++) {
            for (int lower = 8; lower < 12; lower++) {
                Due.is("over(" + upper + ", " + lower + ")", x.over(upper, lower), upper > lower ? 1 : 0);
            }
        }
        Due.is("over(8, 12)", x.over(8, 12), Due.UNKNOWN);
        Due.is("over(12, 8)", x.over(12, 8), Due.UNKNOWN);
        Due.is("over(-1, 8)", x.over(-1, 8), Due.UNKNOWN);
        Due.is("over(8, 14)", x.over(8, 14), Due.UNKNOWN);
        Due.tell(x, "over 8 11");
        Due.is("over(8, 8) in a ring", x.over(8, 8), 1);
    }

    /** Years and pairs of things that are not told count when they are. */
    private static void notTold() {
        BentFurrows x = Due.told("mark 8 0 0 1 1;mark 10 0 0 1 1;over 8 9;over 9 10;over 9 8;year 9 1000 1000");
        Due.is("ring()", x.ring(), 0);
        Due.is("over(8, 10)", x.over(8, 10), 0);
        Due.is("stack(NONE)", x.stack(-1), 1);
        span(x, 8, 0, 2000);
        Due.is("pairs are counted", x.count(2), 3);
        Due.tell(x, "mark 9 0 0 1 1");
        Due.is("ring()", x.ring(), 1 << 8 | 1 << 9);
        Due.is("over(8, 10)", x.over(8, 10), 1);
        span(x, 8, Due.NONE, Due.NONE);

        BentFurrows y = Due.told("mark 8 0 0 1 1;over 8 9;year 9 1000 1000");
        span(y, 8, 0, 2000);
        Due.tell(y, "mark 9 0 0 1 1");
        span(y, 8, 1001, 2000);
        span(y, 9, 1000, 1000);
    }

    private static void mostPairs() {
        BentFurrows x = new BentFurrows();
        int pairs = 0;
        for (int upper = 0; upper < 3; upper++) {
            for (int lower = upper + 1; lower < 14 && pairs < 23; lower++) {
                Due.tell(x, "over " + upper + " " + lower);
                pairs++;
            }
        }
        Due.is("23 pairs", x.count(2), 23);
        Due.tell(x, "over 0 1");
        Due.is("told twice is one", x.count(2), 23);
        Due.tell(x, "mark 12 0 0 1 1;mark 13 0 0 1 1;mark 11 0 0 1 1");
        Due.tell(x, "over 12 13;over 13 11;over 0 1");
        Due.is("24 pairs", x.count(2), 24);
        Due.is("the 24th", x.over(12, 13), 1);
        Due.is("the 25th is passed over", x.over(13, 11), 0);
    }

    private static void span(BentFurrows x, int thing, int earliest, int latest) {
        Due.is("span(" + thing + ", 0)", x.span(thing, 0), earliest);
        Due.is("span(" + thing + ", 1)", x.span(thing, 1), latest);
    }
}
