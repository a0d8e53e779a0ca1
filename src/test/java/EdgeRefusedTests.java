import java.util.function.Supplier;
import java.util.function.ToIntFunction;

/** "Of several the first; nothing changes then": each call that is refused, or that only asks, leaves all as it was. */
public final class EdgeRefusedTests extends Checks {
    private static final int[] NO_PERSONS = {-1, 6, 7, 8, 256, 65536, MIN, MAX};
    private static final int[] NO_WHATS = {-1, 8, 256, 65536, MIN, MAX};

    public static void main(String[] args) {
        refusedLetters();
        refusedTowns();
        refusedPersons();
        refusedNumbers();
        refusedWhereAllIsFull();
        questionsChangeNothing();
        questionsOfTheDeadChangeNothing();
        end();
    }

    /** Something of everything: a TEXT that is another one than what is LAID, ACTS, two KEPT, two SILENT. */
    private static LadderOfBows busy() {
        LadderOfBows x = town("p0,0;p1,1;p2,2;p3,0;p0,3;p3,1;o0,1,2;o1,0,3;o2,3,4;o3,0,9;o4,5,1;o5,4,1;e9;");
        x.bow(0, 1);
        x.keep();
        x.wrong(2, 4);
        x.days(7);
        x.keep();
        x.undo();
        x.die(5);
        x.wrong(3, 1);
        x.silent(0);
        x.silent(2);
        put(x, "p1,1;p0,0;o0,1,3;e3;");
        return x;
    }

    /** As much of everything as there can be. */
    private static LadderOfBows full() {
        LadderOfBows x = new LadderOfBows();
        put(x, persons(0, 7) + "o0,1,9;".repeat(23) + "e60;");
        x.lay();
        x.die(6);
        fill(x, 18);
        x.keep();
        fill(x, 20);
        x.keep();
        x.wrong(2, 3);
        for (int k = 0; k < 6; k++) {
            x.silent(k % 2);
        }
        return x;
    }

    /** All of them are asked of one object, which is compared with its twin then. */
    private static void allRefused(String call, Supplier<LadderOfBows> made, int[] numbers, Asking asking, int want) {
        LadderOfBows x = made.get();
        for (int number : numbers) {
            due(call + " of " + number, asking.ask(x, number), want);
        }
        sameAsTwin(call, x, made.get());
    }

    private interface Asking {
        int ask(LadderOfBows x, int number);
    }

    private static void allBad(int promise, String call, int[] numbers, Asking asking) {
        about(promise, "BAD; nothing changes then");
        allRefused(call, EdgeRefusedTests::busy, numbers, asking, BAD);
    }

    private static void refusedLetters() {
        allBad(2, "write", new int[] {31, 127, -1, 0, 256 + 'p', MIN, MAX}, LadderOfBows::write);
        about(2, "FULL; nothing changes then");
        allRefused("write", EdgeRefusedTests::full, new int[] {32, 126, 'p', ';'}, LadderOfBows::write, FULL);
    }

    private static LadderOfBows busyWith(String text) {
        LadderOfBows x = busy();
        put(x, text);
        return x;
    }

    private static void refusedTowns() {
        about(5, "NO; nothing changes then");
        String[] none = {"", "e5;", "p0,0;x", "p4,0;", "p0,4;", "p0,0;o0,0,1;", "p0,0;p0,0;o0,1,10;", "p0,0;e0;", "p0,0;e61;",
            persons(0, 8)};
        for (String text : none) {
            refused(() -> busyWith(text), "lay() of " + text, LadderOfBows::lay, NO);
            refused(() -> busyWith(text), "fault() of " + text, x -> x.fault() * 0, 0);
        }
    }

    private static void refusedPersons() {
        allBad(6, "person(i, 0)", NO_PERSONS, (x, i) -> x.person(i, 0));
        allBad(7, "owes(i, 0)", NO_PERSONS, (x, i) -> x.owes(i, 0));
        allBad(7, "owes(0, i)", NO_PERSONS, (x, i) -> x.owes(0, i));
        allBad(8, "speak(i, 0)", NO_PERSONS, (x, i) -> x.speak(i, 0));
        allBad(8, "speak(0, i)", NO_PERSONS, (x, i) -> x.speak(0, i));
        allBad(9, "wrong(i, 0)", NO_PERSONS, (x, i) -> x.wrong(i, 0));
        allBad(9, "wrong(0, i)", NO_PERSONS, (x, i) -> x.wrong(0, i));
        allBad(10, "bow(i, 0)", NO_PERSONS, (x, i) -> x.bow(i, 0));
        allBad(10, "bow(0, i)", NO_PERSONS, (x, i) -> x.bow(0, i));
        allBad(11, "refuse(i, 0)", NO_PERSONS, (x, i) -> x.refuse(i, 0));
        allBad(11, "refuse(0, i)", NO_PERSONS, (x, i) -> x.refuse(0, i));
        allBad(12, "atOnce(i, 0)", NO_PERSONS, (x, i) -> x.atOnce(i, 0));
        allBad(12, "atOnce(0, i)", NO_PERSONS, (x, i) -> x.atOnce(0, i));
        allBad(13, "die(i)", NO_PERSONS, LadderOfBows::die);
        allBad(17, "ring(i, 0)", NO_PERSONS, (x, i) -> x.ring(i, 0));
        allBad(19, "mustNot(i)", NO_PERSONS, LadderOfBows::mustNot);
        allBad(21, "word(i, 0)", NO_PERSONS, (x, i) -> x.word(i, 0));
        allBad(21, "word(0, i)", NO_PERSONS, (x, i) -> x.word(0, i));
        allBad(24, "guests(i, 0)", NO_PERSONS, (x, i) -> x.guests(i, 0));
        allBad(24, "guests(0, i)", NO_PERSONS, (x, i) -> x.guests(0, i));
        int[] all = {0, 1, 2, 3, 4, 5};
        allBad(7, "owes, alike", all, (x, i) -> x.owes(i, i));
        allBad(8, "speak, alike", all, (x, i) -> x.speak(i, i));
        allBad(9, "wrong, alike", all, (x, i) -> x.wrong(i, i));
        allBad(10, "bow, alike", all, (x, i) -> x.bow(i, i));
        allBad(11, "refuse, alike", all, (x, i) -> x.refuse(i, i));
        allBad(12, "atOnce, alike", all, (x, i) -> x.atOnce(i, i));
        allBad(24, "guests, alike", all, (x, i) -> x.guests(i, i));
    }

    private static void refusedNumbers() {
        allBad(6, "person(0, what)", NO_WHATS, (x, what) -> x.person(0, what));
        allBad(14, "days(n)", new int[] {0, 10, -1, MIN, MAX}, LadderOfBows::days);
        allBad(16, "peace(what)", NO_WHATS, LadderOfBows::peace);
        allBad(17, "ring(0, what)", NO_WHATS, (x, what) -> x.ring(0, what));
        allBad(18, "forgiven(what)", NO_WHATS, LadderOfBows::forgiven);
        allBad(25, "court(n, 0)", new int[] {-1, 3, MIN, MAX}, (x, n) -> x.court(n, 0));
        allBad(25, "court(1, part)", NO_WHATS, (x, part) -> x.court(1, part));
        allBad(26, "stranger(what)", NO_WHATS, LadderOfBows::stranger);
        allBad(28, "silent(street)", new int[] {-1, 4, MIN, MAX}, LadderOfBows::silent);
        allBad(30, "fits(what)", NO_WHATS, LadderOfBows::fits);
        allBad(31, "year(z, 1, 0)", new int[] {-1, 10000, MIN, MAX}, (x, z) -> x.year(z, 1, 0));
        allBad(31, "year(0, n, 0)", new int[] {0, 61, MIN, MAX}, (x, n) -> x.year(0, n, 0));
        allBad(31, "year(0, 1, what)", NO_WHATS, (x, what) -> x.year(0, 1, what));
        allBad(34, "count(what)", NO_WHATS, LadderOfBows::count);
    }

    private static void fullRefuses(int promise, String call, ToIntFunction<LadderOfBows> asking, int want) {
        about(promise, "nothing changes then");
        refused(EdgeRefusedTests::full, call, asking, want);
    }

    private static void refusedWhereAllIsFull() {
        LadderOfBows x = full();
        int[] counts = {7, 6, 38, 10, 40, 6, 2, 200};
        for (int what = 0; what < counts.length; what++) {
            due("count(" + what + ")", x.count(what), counts[what]);
        }
        fullRefuses(9, "wrong(0, 2)", y -> y.wrong(0, 2), FULL);
        fullRefuses(9, "wrong(0, 1)", y -> y.wrong(0, 1), NO);
        fullRefuses(10, "bow(0, 1)", y -> y.bow(0, 1), FULL);
        fullRefuses(10, "bow(1, 0)", y -> y.bow(1, 0), NO);
        fullRefuses(11, "refuse(2, 3)", y -> y.refuse(2, 3), FULL);
        fullRefuses(11, "refuse(0, 1)", y -> y.refuse(0, 1), NO);
        fullRefuses(12, "atOnce(0, 1)", y -> y.atOnce(0, 1), NO);
        fullRefuses(13, "die(0)", y -> y.die(0), FULL);
        fullRefuses(13, "die(6)", y -> y.die(6), NO);
        fullRefuses(14, "days(9)", y -> y.days(9), FULL);
        fullRefuses(19, "mustNot(6)", y -> y.mustNot(6), NO);
        fullRefuses(24, "guests(0, 6)", y -> y.guests(0, 6), NO);
        fullRefuses(26, "stranger(0)", y -> y.stranger(0), FULL);
        fullRefuses(28, "silent(3)", y -> y.silent(3), FULL);
        fullRefuses(32, "keep()", LadderOfBows::keep, FULL);
    }

    private static void question(int promise, String call, ToIntFunction<LadderOfBows> asking) {
        about(promise, "what is only asked changes nothing");
        LadderOfBows x = busy();
        int answer = asking.applyAsInt(x);
        due(call + ", asked again", asking.applyAsInt(x), answer);
        sameAsTwin(call, x, busy());
    }

    private static void questionsChangeNothing() {
        question(4, "fault()", LadderOfBows::fault);
        for (int k = 0; k < 6; k++) {
            int i = k;
            question(6, "person(0, " + i + ")", x -> x.person(0, i));
            question(19, "mustNot(" + i + ")", x -> x.mustNot(i));
            question(17, "ring(" + i + ", 0)", x -> x.ring(i, 0));
            question(17, "ring(" + i + ", 1)", x -> x.ring(i, 1));
            question(21, "word(0, " + i + ")", x -> x.word(0, i));
            question(25, "court(" + i / 2 + ", " + i % 2 + ")", x -> x.court(i / 2, i % 2));
        }
        for (int k = 0; k < 2; k++) {
            int what = k;
            question(16, "peace(" + what + ")", x -> x.peace(what));
            question(18, "forgiven(" + what + ")", x -> x.forgiven(what));
            question(26, "stranger(" + what + ")", x -> x.stranger(what));
            question(30, "fits(" + what + ")", x -> x.fits(what));
            question(31, "year(9999, 60, " + what + ")", x -> x.year(9999, 60, what));
        }
        question(7, "owes(0, 1)", x -> x.owes(0, 1));
        question(8, "speak(0, 1)", x -> x.speak(0, 1));
        question(16, "peace(2)", x -> x.peace(2));
        question(20, "began()", LadderOfBows::began);
        question(22, "vote()", LadderOfBows::vote);
        question(23, "deals()", LadderOfBows::deals);
        question(24, "guests(0, 1)", x -> x.guests(0, 1));
        question(27, "easter()", LadderOfBows::easter);
        question(34, "count(3)", x -> x.count(3));
    }

    private static void questionsOfTheDeadChangeNothing() {
        about(19, "NO; nothing changes then");
        refused(EdgeRefusedTests::busy, "mustNot(5)", x -> x.mustNot(5), NO);
        about(24, "NO; nothing changes then");
        refused(EdgeRefusedTests::busy, "guests(0, 5)", x -> x.guests(0, 5), NO);
        refused(EdgeRefusedTests::busy, "guests(5, 0)", x -> x.guests(5, 0), NO);
        about(21, "NONE; nothing changes then");
        refused(EdgeRefusedTests::busy, "word(5, 5)", x -> x.word(5, 5), NONE);
        refused(EdgeRefusedTests::busy, "word(0, 5)", x -> x.word(0, 5), NONE);
        about(17, "NONE; nothing changes then");
        refused(EdgeRefusedTests::busy, "ring(5, 0)", x -> x.ring(5, 0), NONE);
    }
}
