/** The bounds that part 2 and the promises 8 to 12 name: teams, spans, rings, stacks, what lies over what. */
public final class YearBoundsTest {
    private static final int LEAST = Integer.MIN_VALUE;
    private static final int MOST = Integer.MAX_VALUE;

    public static void main(String[] args) {
        teamsNumbers();
        fitsAtBothEnds();
        noneAndAllTeams();
        oneTeamKeepsAllOthers();
        spanNumbers();
        allYearsAtFirst();
        leastAndGreatestYears();
        firstAndLastOfAllTeams();
        teamsAndYearsThatMeet();
        atLeastOneYearLater();
        rowOfAllThings();
        rowThatFitsExactly();
        noWayForNoThing();
        ringOfTwoUpToAll();
        ringWithOthers();
        ringByThingsNotTold();
        stackNumbers();
        stackOfNoneAndAll();
        stackByNumbersTheFirst();
        stackByToldPairsOnly();
        overNumbers();
        overItself();
        pairsOnceAndTwentyFour();
        pairsBeyondAreForgotten();
        yearsKeptUntilTold();
        Due.end();
    }

    private static void teamsNumbers() {
        for (int told = 0; told < 8; told++) {
            BentFurrows x = Due.told("bundle " + told + " 0 0 east 1 1 1 9 left 0;mark 8 0 0 1 1;team 1 9 9 0 0");
            for (int bundle = -1; bundle <= 14; bundle++) {
                Due.is("teams(" + bundle + ")", x.teams(bundle), bundle == told ? 2 : Due.UNKNOWN);
            }
            for (int far : new int[] {LEAST, MOST, told + 32, told - 32}) {
                Due.is("teams(" + far + ")", x.teams(far), Due.UNKNOWN);
            }
        }
    }

    /** A SWING is one of a team's own from the one to the other, both ends also. */
    private static void fitsAtBothEnds() {
        int[][] cases = {
            {0, 0, 0, 1}, {0, 1, 40, 0}, {40, 40, 40, 1}, {40, 0, 39, 0}, {9, 9, 9, 1}, {9, 9, 40, 1}, {9, 0, 9, 1},
            {9, 10, 40, 0}, {9, 0, 8, 0}, {9, 0, 40, 1}, {0, 0, 40, 1}, {40, 0, 40, 1},
        };
        for (int[] c : cases) {
            BentFurrows x = Due.told("bundle 0 0 0 east 1 1 1 " + c[0] + " left 0;team 12 " + c[1] + " " + c[2] + " 0 0");
            Due.is("swing " + c[0] + " in " + c[1] + " .. " + c[2], x.teams(0), c[3] << 12);
        }
    }

    private static void noneAndAllTeams() {
        BentFurrows x = Due.told("bundle 0 0 0 east 1 1 1 0 left 0");
        Due.is("none", x.teams(0), 0);
        int all = 0;
        for (int team = 12; team >= 1; team--) {
            Due.tell(x, "team " + team + " 0 40 0 2000");
            all |= 1 << team;
            Due.is("up to team " + team, x.teams(0), all);
        }
        Due.is("all twelve", x.teams(0), 8190);
        Due.tell(x, "team 7 1 40 0 2000");
        Due.is("told anew, it fits no more", x.teams(0), 8190 - 128);
    }

    /** Each team with swings and years of its own, told in rising and in falling order, and each anew. */
    private static void oneTeamKeepsAllOthers() {
        for (int anew = 0; anew <= 13; anew++) {
            BentFurrows x = new BentFurrows();
            for (int i = 1; i <= 12; i++) {
                Due.tell(x, ownTeam(anew == 13 ? 13 - i : i));
            }
            if (anew >= 1 && anew <= 12) {
                Due.tell(x, ownTeam(anew));
            }
            for (int team = 1; team <= 12; team++) {
                for (int swing = 3 * team - 1; swing <= 3 * team + 1; swing++) {
                    Due.tell(x, "bundle 4 0 0 east 1 1 1 " + swing + " left 0");
                    boolean fits = swing < 3 * team + 1;
                    Due.is("teams(4)", x.teams(4), fits ? 1 << team : 0);
                    Due.is("span(4, 0)", x.span(4, 0), fits ? 20 * team : 0);
                    Due.is("span(4, 1)", x.span(4, 1), fits ? 30 * team + 9 : 2000);
                }
            }
        }
    }

    /** SWINGS 3 K - 1 and 3 K, YEARS 20 K to 30 K + 9. */
    private static String ownTeam(int team) {
        return "team " + team + " " + (3 * team - 1) + " " + 3 * team + " " + 20 * team + " " + (30 * team + 9);
    }

    private static void spanNumbers() {
        for (int told = 0; told < 14; told++) {
            BentFurrows x = Due.told(thing(told) + ";year " + told + " 7 8");
            for (int thing = -1; thing <= 15; thing++) {
                Due.is("span(" + thing + ", 0)", x.span(thing, 0), thing == told ? 7 : Due.UNKNOWN);
                Due.is("span(" + thing + ", 1)", x.span(thing, 1), thing == told ? 8 : Due.UNKNOWN);
            }
            for (int far : new int[] {LEAST, MOST, told + 32, told - 32}) {
                Due.is("span(" + far + ", 0)", x.span(far, 0), Due.UNKNOWN);
                Due.is("UNKNOWN ahead of OUTSIDE", x.span(far, 2), Due.UNKNOWN);
            }
            for (int what : new int[] {-1, 2, LEAST, MOST}) {
                Due.is("span(" + told + ", " + what + ")", x.span(told, what), Due.OUTSIDE);
            }
        }
    }

    private static String thing(int thing) {
        return thing < 8 ? "bundle " + thing + " 0 0 east 1 1 1 0 left 0" : "mark " + thing + " 0 0 1 1";
    }

    private static BentFurrows allThings() {
        BentFurrows x = new BentFurrows();
        for (int thing = 0; thing < 14; thing++) {
            Due.tell(x, thing(thing));
        }
        return x;
    }

    private static void span(BentFurrows x, int thing, int earliest, int latest) {
        Due.is("span(" + thing + ", 0)", x.span(thing, 0), earliest);
        Due.is("span(" + thing + ", 1)", x.span(thing, 1), latest);
    }

    private static void allYearsAtFirst() {
        BentFurrows x = allThings();
        for (int thing = 0; thing < 14; thing++) {
            span(x, thing, 0, 2000);
        }
        for (int thing = 0; thing < 14; thing++) {
            Due.tell(x, "year " + thing + " " + thing + " " + (2000 - thing));
        }
        for (int thing = 0; thing < 14; thing++) {
            span(x, thing, thing, 2000 - thing);
        }
    }

    private static void leastAndGreatestYears() {
        for (int thing : new int[] {0, 13}) {
            BentFurrows x = Due.told(thing(thing), "year " + thing + " 0 0");
            span(x, thing, 0, 0);
            Due.tell(x, "year " + thing + " 2000 2000");
            span(x, thing, 2000, 2000);
            Due.tell(x, "year " + thing + " 0 2000");
            span(x, thing, 0, 2000);
        }
    }

    private static void firstAndLastOfAllTeams() {
        BentFurrows x = Due.told("bundle 7 0 0 east 1 1 1 20 left 0;team 12 20 20 1900 2000");
        span(x, 7, 1900, 2000);
        Due.tell(x, "team 1 20 20 0 0");
        span(x, 7, 0, 2000);
        Due.tell(x, "year 7 1000 1000");
        span(x, 7, 1000, 1000);
        Due.tell(x, "team 1 21 40 0 0");
        span(x, 7, Due.NONE, Due.NONE);
        Due.tell(x, "year 7 0 2000;team 12 0 19 0 0");
        span(x, 7, 0, 2000);
        Due.tell(x, "team 5 20 40 0 0");
        span(x, 7, 0, 0);
        Due.tell(x, "team 5 20 40 2000 2000");
        span(x, 7, 2000, 2000);
    }

    private static void teamsAndYearsThatMeet() {
        BentFurrows x = Due.told("bundle 0 0 0 east 1 1 1 20 left 0;team 3 0 40 900 1000");
        String[] told = {"1000 2000", "0 900", "950 960", "900 1000", "899 1001", "1001 2000", "0 899"};
        int[][] due = {{1000, 1000}, {900, 900}, {950, 960}, {900, 1000}, {900, 1000}, {-1, -1}, {-1, -1}};
        for (int i = 0; i < told.length; i++) {
            Due.tell(x, "year 0 " + told[i]);
            span(x, 0, due[i][0], due[i][1]);
        }
    }

    /** "came at least one YEAR later." */
    private static void atLeastOneYearLater() {
        String two = "mark 8 0 0 1 1;bundle 7 0 0 east 1 1 1 0 left 0;over 8 7";
        BentFurrows x = Due.told(two);
        span(x, 8, 1, 2000);
        span(x, 7, 0, 1999);
        Due.tell(x, "year 8 0 0");
        span(x, 8, Due.NONE, Due.NONE);
        Due.tell(x, "year 8 0 1");
        span(x, 8, 1, 1);
        span(x, 7, 0, 0);
        Due.tell(x, "year 8 0 2000;year 7 2000 2000");
        span(x, 7, Due.NONE, Due.NONE);
        Due.tell(x, "year 7 1999 2000");
        span(x, 7, 1999, 1999);
        span(x, 8, 2000, 2000);
        Due.tell(x, "year 7 500 500;year 8 500 500");
        span(x, 7, Due.NONE, Due.NONE);
        Due.tell(x, "year 8 500 501");
        span(x, 8, 501, 501);
    }

    private static void rowOfAllThings() {
        BentFurrows up = allThings();
        BentFurrows down = allThings();
        for (int thing = 0; thing < 13; thing++) {
            Due.tell(up, "over " + (thing + 1) + " " + thing);
            Due.tell(down, "over " + thing + " " + (thing + 1));
        }
        for (int thing = 0; thing < 14; thing++) {
            span(up, thing, thing, 1987 + thing);
            span(down, thing, 13 - thing, 2000 - thing);
        }
        Due.tell(up, "year 0 1987 2000");
        span(up, 0, 1987, 1987);
        span(up, 13, 2000, 2000);
        Due.tell(up, "year 0 1988 2000");
        span(up, 0, Due.NONE, Due.NONE);
        Due.tell(down, "year 0 0 13");
        span(down, 0, 13, 13);
        span(down, 13, 0, 0);
        Due.tell(down, "year 0 0 12");
        span(down, 13, Due.NONE, Due.NONE);
    }

    private static void rowThatFitsExactly() {
        BentFurrows x = Due.told("mark 8 0 0 1 1;mark 9 0 0 1 1;mark 10 0 0 1 1;over 8 9;over 9 10;year 8 0 502;year 10 500 2000");
        span(x, 8, 502, 502);
        span(x, 9, 501, 501);
        span(x, 10, 500, 500);
        Due.tell(x, "year 8 0 501");
        span(x, 9, Due.NONE, Due.NONE);
        Due.tell(x, "year 8 0 503");
        span(x, 9, 501, 502);
    }

    /** "if there is no way: for no THING": also for one that has nothing to do with it. */
    private static void noWayForNoThing() {
        BentFurrows x = allThings();
        Due.tell(x, "over 8 0;year 8 5 5;year 0 5 5");
        for (int thing = 0; thing < 14; thing++) {
            span(x, thing, Due.NONE, Due.NONE);
        }
        Due.is("OUTSIDE ahead of NONE", x.span(0, 2), Due.OUTSIDE);
        Due.is("UNKNOWN ahead of NONE", x.span(14, 0), Due.UNKNOWN);
        Due.is("no ring", x.ring(), 0);
        Due.is("a stack", x.stack(-1), 2);
        Due.tell(x, "year 8 6 6");
        span(x, 13, 0, 2000);
        span(x, 8, 6, 6);
        Due.tell(x, "team 1 0 0 6 6");
        span(x, 13, Due.NONE, Due.NONE);
        Due.tell(x, "team 1 1 1 6 6;over 0 8");
        span(x, 13, Due.NONE, Due.NONE);
    }

    private static void ringOfTwoUpToAll() {
        for (int size = 2; size <= 14; size++) {
            BentFurrows x = allThings();
            for (int thing = 0; thing + 1 < size; thing++) {
                Due.tell(x, "over " + thing + " " + (thing + 1));
            }
            Due.is("a row of " + size, x.ring(), 0);
            Due.tell(x, "over " + (size - 1) + " 0");
            Due.is("a ring of " + size, x.ring(), (1 << size) - 1);
            Due.is("over(0, 0)", x.over(0, 0), 1);
            Due.is("stack(NONE)", x.stack(-1), Due.NONE);
            Due.is("stack(0)", x.stack(0), Due.NONE);
            Due.is("stack(most)", x.stack(MOST), Due.NONE);
            Due.is("stack(-2)", x.stack(-2), Due.OUTSIDE);
            Due.is("stack(least)", x.stack(LEAST), Due.OUTSIDE);
            span(x, 13, Due.NONE, Due.NONE);
        }
    }

    private static void ringWithOthers() {
        BentFurrows x = allThings();
        Due.tell(x, "over 0 1;over 1 2;over 2 1;over 2 3;over 13 12;over 12 13");
        Due.is("what lies over or under a ring is not of it", x.ring(), 1 << 1 | 1 << 2 | 1 << 12 | 1 << 13);
        Due.is("over(0, 3)", x.over(0, 3), 1);
        Due.is("over(0, 0)", x.over(0, 0), 0);
        Due.is("over(3, 3)", x.over(3, 3), 0);
        Due.is("over(13, 1)", x.over(13, 1), 0);
    }

    private static void ringByThingsNotTold() {
        BentFurrows x = Due.told("mark 8 0 0 1 1;mark 9 0 0 1 1;over 8 10;over 10 8;over 9 10;over 10 9");
        Due.is("no ring without 10", x.ring(), 0);
        span(x, 8, 0, 2000);
        Due.is("stack(NONE)", x.stack(-1), 1);
        Due.is("over(8, 9)", x.over(8, 9), 0);
        Due.tell(x, "mark 10 0 0 1 1");
        Due.is("a ring with it", x.ring(), 7 << 8);
        Due.is("over(8, 9)", x.over(8, 9), 1);
        span(x, 8, Due.NONE, Due.NONE);
    }

    private static void stackNumbers() {
        BentFurrows x = Due.told("mark 8 0 0 1 1;mark 9 0 0 1 1;over 9 8");
        Due.is("stack(NONE)", x.stack(-1), 2);
        Due.is("stack(0)", x.stack(0), 9);
        Due.is("stack(1)", x.stack(1), 8);
        for (int i : new int[] {2, 3, 13, 14, 32, MOST}) {
            Due.is("stack(" + i + ")", x.stack(i), Due.NONE);
        }
        for (int i : new int[] {-2, -3, -32, LEAST}) {
            Due.is("stack(" + i + ")", x.stack(i), Due.OUTSIDE);
        }
    }

    private static void stack(BentFurrows x, int... things) {
        Due.is("stack(NONE)", x.stack(-1), things.length);
        for (int i = 0; i < things.length; i++) {
            Due.is("stack(" + i + ")", x.stack(i), things[i]);
        }
        Due.is("stack(" + things.length + ")", x.stack(things.length), Due.NONE);
    }

    private static void stackOfNoneAndAll() {
        stack(new BentFurrows());
        for (int told = 0; told < 14; told++) {
            stack(Due.told(thing(told)), told);
        }
        BentFurrows x = allThings();
        stack(x, 0);
        for (int thing = 0; thing < 13; thing++) {
            Due.tell(x, "over " + (thing + 1) + " " + thing);
        }
        stack(x, 13, 12, 11, 10, 9, 8, 7, 6, 5, 4, 3, 2, 1, 0);
    }

    private static void stackByNumbersTheFirst() {
        BentFurrows x = allThings();
        Due.tell(x, "over 13 0;over 12 1");
        stack(x, 12, 1);
        Due.tell(x, "over 12 0");
        stack(x, 12, 0);
        Due.tell(x, "over 2 13;over 3 12");
        stack(x, 2, 13, 0);
        Due.tell(x, "over 2 12");
        stack(x, 2, 12, 0);
        Due.tell(x, "over 13 11;over 11 10");
        stack(x, 2, 13, 11, 10);
    }

    private static void stackByToldPairsOnly() {
        BentFurrows x = Due.told("mark 8 0 0 1 1;mark 9 0 0 1 1;mark 10 0 0 1 1;over 8 9;over 9 10;over 8 10");
        stack(x, 8, 9, 10);
        x = Due.told("mark 8 0 0 1 1;mark 10 0 0 1 1;over 8 9;over 9 10");
        stack(x, 8);
        Due.tell(x, "mark 9 0 0 1 1");
        stack(x, 8, 9, 10);
    }

    private static void overNumbers() {
        BentFurrows x = Due.told("bundle 0 0 0 east 1 1 1 0 left 0;mark 13 0 0 1 1;over 13 0;over 13 5;over 5 0");
        Due.is("over(13, 0)", x.over(13, 0), 1);
        Due.is("over(0, 13)", x.over(0, 13), 0);
        for (int number : new int[] {-1, 1, 5, 12, 14, 32, 45, -19, LEAST, MOST}) {
            Due.is("over(13, " + number + ")", x.over(13, number), Due.UNKNOWN);
            Due.is("over(" + number + ", 0)", x.over(number, 0), Due.UNKNOWN);
            Due.is("over(" + number + ", " + number + ")", x.over(number, number), Due.UNKNOWN);
        }
    }

    private static void overItself() {
        BentFurrows x = Due.told("mark 8 0 0 1 1;mark 9 0 0 1 1;over 8 9");
        Due.is("over(8, 8)", x.over(8, 8), 0);
        Due.tell(x, "over 9 8");
        Due.is("over(8, 8)", x.over(8, 8), 1);
        Due.is("over(9, 8)", x.over(9, 8), 1);
    }

    /** "A pair of OVER told twice is one; 24 pairs at most: more are passed over." */
    private static void pairsOnceAndTwentyFour() {
        BentFurrows x = allThings();
        for (int pair = 0; pair < 30; pair++) {
            int upper = pair < 13 ? 0 : 1;
            int lower = pair < 13 ? pair + 1 : pair - 11;
            boolean known = upper == 1 && lower > 13;
            if (known) {
                break;
            }
            Due.tell(x, "over " + upper + " " + lower + ";over " + upper + " " + lower);
            Due.is("pairs", x.count(2), Math.min(24, pair + 1));
        }
        Due.is("the 24th", x.over(1, 12), 1);
        Due.is("the 25th is passed over", x.over(1, 13), 0);
        Due.tell(x, "over 13 1;over 2 3;over 0 1;gap 7");
        Due.is("still 24", x.count(2), 24);
        Due.is("more are passed over", x.over(13, 1), 0);
        Due.is("more are passed over", x.over(2, 3), 0);
        Due.is("no ring by them", x.ring(), 0);
        Due.is("the lines behind are done", x.count(8), 7);
        Due.is("the other way round is another pair", Due.told("over 0 1;over 1 0").count(2), 2);
    }

    private static void pairsBeyondAreForgotten() {
        BentFurrows x = new BentFurrows();
        int told = 0;
        for (int upper = 0; upper < 2; upper++) {
            for (int lower = upper + 1; lower < 14 && told < 24; lower++) {
                Due.tell(x, "over " + upper + " " + lower);
                told++;
            }
        }
        Due.is("24 pairs of things not told", x.count(2), 24);
        Due.tell(x, "over 8 9;mark 8 0 0 1 1;mark 9 0 0 1 1");
        Due.is("passed over, also when they are told later", x.over(8, 9), 0);
        Due.tell(x, thing(0));
        Due.is("kept, and counts now", x.over(0, 9), 1);
        span(x, 0, 1, 2000);
        span(x, 9, 0, 1999);
    }

    /** "YEARS and pairs are kept for THINGS that are not told, and count when they are." */
    private static void yearsKeptUntilTold() {
        for (int late = 0; late < 14; late++) {
            int other = late == 8 ? 9 : 8;
            BentFurrows x = Due.told(thing(other) + ";year " + late + " 2000 2000;over " + other + " " + late);
            span(x, other, 0, 2000);
            Due.is("not told by its year", x.span(late, 0), Due.UNKNOWN);
            Due.is("pairs", x.count(2), 1);
            Due.tell(x, thing(late));
            span(x, other, Due.NONE, Due.NONE);
            Due.tell(x, "year " + late + " 3 2000");
            span(x, other, 4, 2000);
            span(x, late, 3, 1999);
            // told anew, a thing keeps its years and pairs
            Due.tell(x, thing(late));
            span(x, late, 3, 1999);
        }
    }
}
