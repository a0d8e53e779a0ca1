import java.util.ArrayList;
import java.util.List;
import java.util.function.Supplier;
import java.util.function.ToIntFunction;

/** What the tests share: asking and telling what is not as due, making towns, and looking at all that a call could change. */
abstract class Checks {
    static final int BAD = -1, NO = -2, FULL = -3, NONE = -4;
    static final int MIN = Integer.MIN_VALUE, MAX = Integer.MAX_VALUE;

    private static int wrong = 0;
    private static int asked = 0;
    private static String about = "";

    static void about(String what) {
        about = what;
    }

    static void about(int promise) {
        about = "promise " + promise;
    }

    static void about(int promise, String sentence) {
        about = "promise " + promise + ", \"" + sentence + "\"";
    }

    static void due(String call, int got, int want) {
        asked++;
        if (got != want) {
            wrong++;
            System.out.println(about + ": " + call + " answered " + got + ", due is " + want);
        }
    }

    /** Says how it went; ends with exit code 1 if an answer was not as due. */
    static void end() {
        System.out.println(wrong == 0 ? asked + " answers are as due" : wrong + " answers of " + asked + " are not as due");
        if (wrong != 0 || asked == 0) {
            System.exit(1);
        }
    }

    static void put(LadderOfBows x, String text) {
        x.wipe();
        for (int k = 0; k < text.length(); k++) {
            x.write(text.charAt(k));
        }
    }

    static LadderOfBows town(String text) {
        LadderOfBows x = new LadderOfBows();
        put(x, text);
        if (x.lay() < 1) {
            wrong++;
            System.out.println(about + ": " + text + " was not LAID");
        }
        return x;
    }

    /** So many PERSONS of one KIND in STREET 0. */
    static String persons(int kind, int number) {
        return ("p" + kind + ",0;").repeat(number);
    }

    /** ACTS that change nothing but the day (where no PRIEST is): DAYS of 1. */
    static void fill(LadderOfBows x, int acts) {
        for (int k = 0; k < acts; k++) {
            x.days(1);
        }
    }

    /**
     * A call that is refused answers what is due, and changes nothing: the object goes on as its twin does, which was
     * never asked.
     */
    static void refused(Supplier<LadderOfBows> made, String call, ToIntFunction<LadderOfBows> asking, int want) {
        LadderOfBows x = made.get();
        due(call, asking.applyAsInt(x), want);
        sameAsTwin(call, x, made.get());
    }

    /** Uses both up: what is UNDONE, taken BACK and LAID last is looked at, too. */
    static void sameAsTwin(String call, LadderOfBows x, LadderOfBows twin) {
        List<Integer> want = picture(twin);
        List<Integer> got = picture(x);
        int first = 0;
        while (first < want.size() && first < got.size() && got.get(first).equals(want.get(first))) {
            first++;
        }
        due("how many looks agree behind " + call, first, Math.max(want.size(), got.size()));
    }

    private static List<Integer> picture(LadderOfBows x) {
        List<Integer> seen = new ArrayList<>();
        look(x, seen);
        for (int what = 0; what < 2; what++) {
            seen.add(x.fits(what));
            seen.add(x.peace(what));
        }
        seen.add(x.easter());
        seen.add(x.began());
        for (int left = x.count(4); left > 0; left--) {
            seen.add(x.undo());
            seen.add(x.count(3));
        }
        for (int left = x.count(6); left > 0; left--) {
            seen.add(x.back());
            lookAtCounts(x, seen);
        }
        seen.add(x.fault());
        seen.add(x.lay());
        seen.add(x.easter());
        lookAtCounts(x, seen);
        return seen;
    }

    private static void look(LadderOfBows x, List<Integer> seen) {
        lookAtCounts(x, seen);
        int persons = x.count(0);
        for (int i = 0; i < persons; i++) {
            for (int what = 0; what < 6; what++) {
                seen.add(x.person(i, what));
            }
            for (int j = 0; j < persons; j++) {
                seen.add(x.owes(i, j));
            }
        }
    }

    private static void lookAtCounts(LadderOfBows x, List<Integer> seen) {
        for (int what = 0; what < 8; what++) {
            seen.add(x.count(what));
        }
    }
}
