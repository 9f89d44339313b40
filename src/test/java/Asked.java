import java.util.ArrayList;
import java.util.List;

/**
 * All that an object can be asked, in parts: each part on an object of its own, since nothing is
 * promised behind the 512th call. The last part ends with calls that change, to see what was kept.
 */
final class Asked {
    static final int PARTS = 5;

    private Asked() {
    }

    static List<Integer> part(BentFurrows x, int part) {
        List<Integer> answers = new ArrayList<>();
        switch (part) {
            case 0 -> told(x, answers);
            case 1 -> years(x, answers);
            case 2 -> over(x, answers);
            case 3 -> whatWasOne(x, answers);
            default -> terriersTurnsPictures(x, answers);
        }
        return answers;
    }

    private static void told(BentFurrows x, List<Integer> answers) {
        for (int what = 0; what < 9; what++) {
            answers.add(x.count(what));
        }
        for (int bundle = 0; bundle < 8; bundle++) {
            for (int what = 0; what < 10; what++) {
                answers.add(x.bundle(bundle, what));
            }
        }
        for (int thing = 0; thing < 14; thing++) {
            for (int what = 0; what < 4; what++) {
                answers.add(x.covers(thing, what));
            }
        }
        theText(x, answers);
    }

    /** The bytes of the text show only in what is done with it. */
    private static void theText(BentFurrows x, List<Integer> answers) {
        answers.add(x.fault());
        answers.add(x.parish());
        answers.add(x.count(4));
        answers.add(x.count(7));
        answers.add(x.count(8));
        for (int thing = 0; thing < 14; thing++) {
            answers.add(x.covers(thing, 0));
        }
        answers.add(x.erase());
    }

    private static void years(BentFurrows x, List<Integer> answers) {
        for (int bundle = 0; bundle < 8; bundle++) {
            answers.add(x.teams(bundle));
        }
        for (int thing = 0; thing < 14; thing++) {
            answers.add(x.span(thing, 0));
            answers.add(x.span(thing, 1));
        }
        answers.add(x.ring());
        for (int i = -1; i < 14; i++) {
            answers.add(x.stack(i));
        }
    }

    private static void over(BentFurrows x, List<Integer> answers) {
        for (int thing = 0; thing < 14; thing++) {
            for (int other = 0; other < 14; other++) {
                answers.add(x.over(thing, other));
            }
        }
    }

    private static void whatWasOne(BentFurrows x, List<Integer> answers) {
        for (int a = 0; a < 8; a++) {
            for (int b = 0; b < a; b++) {
                answers.add(x.joined(a, b));
                answers.add(x.later(a, b));
                answers.add(x.odds(a, b, 0));
                answers.add(x.odds(a, b, 1));
            }
            for (int what = 0; what < 3; what++) {
                answers.add(x.field(a, what));
            }
        }
        answers.add(x.fields());
        for (int year : new int[] {0, 1, 499, 500, 1000, 1500, 1999, 2000}) {
            answers.add(x.ploughed(year, 0));
            answers.add(x.ploughed(year, 1));
        }
        answers.add(x.peak(0));
        answers.add(x.peak(1));
    }

    private static void terriersTurnsPictures(BentFurrows x, List<Integer> answers) {
        for (int what = -2; what < 5; what++) {
            answers.add(x.given(what));
        }
        answers.add(x.round());
        for (int strip = 0; strip < 30; strip++) {
            answers.add(x.whose(strip));
        }
        for (int picture = 0; picture < 8; picture++) {
            for (int bundle = 0; bundle < 8; bundle++) {
                answers.add(x.shows(picture, bundle));
            }
        }
        for (int what = 0; what < 3; what++) {
            answers.add(x.seen(what));
        }
        for (int strip = 0; strip < 30; strip++) {
            answers.add(x.holder(strip, -1));
        }
        answers.add(x.picture(0, 0, 0));
        // terriers beside one another: each is taken out, and the others are given anew
        for (int terrier = 0; terrier < 5; terrier++) {
            answers.add(x.terrier(terrier, 0, 0));
            answers.add(x.given(-1));
            answers.add(x.count(5));
        }
    }
}
