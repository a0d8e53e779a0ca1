import java.util.function.ToIntFunction;

/** Promises 1 to 8: each sentence of a boundary in a TEXT, in what is LAID and in what is told of PERSONS. */
public final class EdgeTextTests extends Checks {
    /** 35 letters, 161 of debts, 4 of EASTER: 200. */
    private static final String FULL_TEXT = persons(0, 7) + "o0,1,9;".repeat(23) + "e60;";

    public static void main(String[] args) {
        newObjectIsAsTold();
        lettersFrom32To126();
        lettersAtMost200();
        fullTextIsRead();
        fullTextCutOff();
        wipeAnswersHowLongItWas();
        emptyTextHasNoFault();
        numbersHaveOneOrTwoFigures();
        numbersArePartedByCommas();
        semicolonBehindTheLastNumber();
        itemsHaveALetterOfThree();
        kindsFrom0To3();
        streetsFrom0To3();
        personsAtMost7();
        bothAreToldAhead();
        bothAreUnlike();
        apologiesFrom0To9();
        lastOneOfEachTwo();
        easterFrom1To60();
        easterIn40DaysWithout();
        lastEasterCounts();
        faultIsTheFirstItemNotSo();
        laidHasAPersonAtLeast();
        laidStartsAnew();
        laidBehindWhatWasAsked();
        laidKeepsTheText();
        personsToldOrNone();
        personOfTheDead();
        personOwesAtMost54();
        personTakes();
        owesOfTwo();
        speakOfTwo();
        end();
    }

    private static void dueFault(String text, int want) {
        LadderOfBows x = new LadderOfBows();
        put(x, text);
        due("fault() of " + text, x.fault(), want);
        boolean isLaid = want == NONE && text.indexOf('p') >= 0;
        due("lay() of " + text, Math.min(x.lay(), 1), isLaid ? 1 : NO);
    }

    private static void newObjectIsAsTold() {
        about(1, "at first p0,0;p0,1;p1,0;p2,1;p3,0;o0,1,1;o1,2,2;o2,0,1;o3,4,3;o4,3,1;");
        LadderOfBows first = new LadderOfBows();
        due("count(7)", first.count(7), 0);
        due("wipe()", first.wipe(), 0);
        LadderOfBows laid = town("p0,0;p0,1;p1,0;p2,1;p3,0;o0,1,1;o1,2,2;o2,0,1;o3,4,3;o4,3,1;");
        laid.wipe();
        sameAsTwin("new LadderOfBows()", first, laid);
        LadderOfBows other = new LadderOfBows();
        other.die(0);
        due("count(1) of another object", new LadderOfBows().count(1), 5);
    }

    private static void lettersFrom32To126() {
        about(2, "A letter (32 to 126, as in ASCII)");
        LadderOfBows x = new LadderOfBows();
        int[] none = {31, 127, 0, -1, 128, 255, 256 + 'p', 65536 + 'p', -'p', MIN, MAX, MIN + 'p'};
        for (int letter : none) {
            due("write(" + letter + ")", x.write(letter), BAD);
            due("count(7)", x.count(7), 0);
        }
        for (int letter = 32; letter <= 126; letter++) {
            due("write(" + letter + ")", x.write(letter), letter - 31);
        }
    }

    private static void lettersAtMost200() {
        about(2, "A TEXT is letters (200 at most)");
        LadderOfBows x = new LadderOfBows();
        for (int k = 1; k <= 200; k++) {
            due("write(32)", x.write(32), k);
        }
        due("write(32) behind 200", x.write(32), FULL);
        due("write(126) behind 200", x.write(126), FULL);
        due("write(31) behind 200: BAD is ahead of FULL", x.write(31), BAD);
        due("write(127) behind 200: BAD is ahead of FULL", x.write(127), BAD);
        due("count(7)", x.count(7), 200);
        due("wipe()", x.wipe(), 200);
        due("write(32) of the empty one", x.write(32), 1);
    }

    private static void fullTextIsRead() {
        about(4, "letters (200 at most)");
        LadderOfBows x = new LadderOfBows();
        put(x, FULL_TEXT);
        due("count(7)", x.count(7), 200);
        due("fault()", x.fault(), NONE);
        due("write('x') behind it", x.write('x'), FULL);
        due("fault(): what is refused is not behind it", x.fault(), NONE);
        due("lay()", x.lay(), 7);
        due("owes(0, 1)", x.owes(0, 1), 9);
    }

    private static void fullTextCutOff() {
        about(4, "letters (200 at most)");
        String start = FULL_TEXT.substring(0, 196);
        dueFault(start + "e5;x", 199);
        dueFault(start + "e5;p", 199);
        dueFault(start + "o0,1,9;", 196);
        dueFault(start + "e060;", 196);
        dueFault(start.substring(0, 189) + "e5;o0,1,11;", 192);
    }

    private static void wipeAnswersHowLongItWas() {
        about(3, "THE TEXT is empty: how long it was");
        LadderOfBows x = new LadderOfBows();
        due("wipe() of the empty one", x.wipe(), 0);
        x.write('p');
        due("wipe() of one letter", x.wipe(), 1);
        due("wipe() again", x.wipe(), 0);
        put(x, FULL_TEXT);
        due("wipe() of the full one", x.wipe(), 200);
        due("count(7)", x.count(7), 0);
        due("fault()", x.fault(), NONE);
        x.write('x');
        due("fault() of what came behind", x.fault(), 0);
        x.wipe();
        x.write('e');
        x.write('5');
        due("fault(): nothing of what was wiped comes back", x.fault(), 0);
    }

    private static void emptyTextHasNoFault() {
        about(4, "NONE");
        LadderOfBows x = new LadderOfBows();
        due("fault() of the empty one", x.fault(), NONE);
        due("fault() again", x.fault(), NONE);
    }

    private static void numbersHaveOneOrTwoFigures() {
        about(4, "numbers (one or two figures)");
        String ahead = persons(0, 2);
        String[] fine = {"0", "00"};
        String[] none = {"", "000", "0000", " 0", "0 ", "-0", "+0", "a", "0a", ".", "/", ":"};
        for (String number : fine) {
            dueFault(ahead + "p" + number + ",0;", NONE);
            dueFault(ahead + "p0," + number + ";", NONE);
            dueFault(ahead + "o" + number + ",1,0;", NONE);
            dueFault(ahead + "o1," + number + ",0;", NONE);
            dueFault(ahead + "o0,1," + number + ";", NONE);
        }
        for (String number : none) {
            dueFault(ahead + "p" + number + ",0;", 10);
            dueFault(ahead + "p0," + number + ";", 10);
            dueFault(ahead + "o" + number + ",1,0;", 10);
            dueFault(ahead + "o1," + number + ",0;", 10);
            dueFault(ahead + "o0,1," + number + ";", 10);
            dueFault(ahead + "e" + number + ";", 10);
        }
        dueFault("e1;e01;e10;", NONE);
        dueFault("e001;", 0);
        dueFault("e010;", 0);
    }

    private static void numbersArePartedByCommas() {
        about(4, "parted by ,");
        dueFault("p0,0;", NONE);
        for (String sign : new String[] {";", ".", " ", "", ",,", "-", "+"}) {
            dueFault("p0" + sign + "0;", 0);
            dueFault("p0,0;p0,0;o0" + sign + "1,1;", 10);
            dueFault("p0,0;p0,0;o0,1" + sign + "1;", 10);
        }
        dueFault("p,0,0;", 0);
        dueFault("p0;", 0);
        dueFault("p0,0,0;", 0);
        dueFault("p0,0;p0,0;o0,1;", 10);
        dueFault("p0,0;p0,0;o0,1,1,1;", 10);
        dueFault("e1,1;", 0);
    }

    private static void semicolonBehindTheLastNumber() {
        about(4, "and a ; behind the last one");
        for (String end : new String[] {"", ",", ":", " ;", ",;", "p"}) {
            dueFault("p0,0" + end, 0);
            dueFault("e5" + end, 0);
            dueFault("p0,0;p0,0;o0,1,1" + end, 10);
        }
        dueFault("p0,0;;", 5);
        dueFault(";", 0);
        dueFault("p0,0; p0,0;", 5);
        dueFault("p0,0; ", 5);
    }

    private static void itemsHaveALetterOfThree() {
        about(4, "ITEMS one behind the other, each a letter");
        for (int letter = 32; letter <= 126; letter++) {
            char sign = (char) letter;
            dueFault("p0,0;p0,0;" + sign + "0,1,1;", sign == 'o' ? NONE : 10);
            dueFault("p0,0;p0,0;" + sign + "0,1;", sign == 'p' ? NONE : 10);
            dueFault("p0,0;p0,0;" + sign + "1;", sign == 'e' ? NONE : 10);
            dueFault("p0,0;p0,0;" + sign, 10);
            dueFault("p0,0;p0,0;" + sign + ";", 10);
        }
    }

    private static void kindsFrom0To3() {
        about(4, "KIND K (0 PLAIN, 1 PRIEST, 2 CHILD, 3 DRUNK)");
        for (int kind = 0; kind <= 99; kind++) {
            dueFault("p" + kind + ",0;", kind <= 3 ? NONE : 0);
            if (kind <= 3) {
                due("person(0, 0)", town("p" + kind + ",0;").person(0, 0), kind);
                due("person(0, 0)", town("p0" + kind + ",0;").person(0, 0), kind);
            }
        }
    }

    private static void streetsFrom0To3() {
        about(4, "STREET S (0 to 3)");
        for (int street = 0; street <= 99; street++) {
            dueFault("p0," + street + ";", street <= 3 ? NONE : 0);
            if (street <= 3) {
                due("person(0, 1)", town("p0," + street + ";").person(0, 1), street);
                due("person(0, 1)", town("p0,0" + street + ";").person(0, 1), street);
            }
        }
    }

    private static void personsAtMost7() {
        about(4, "7 at most");
        for (int number = 1; number <= 7; number++) {
            dueFault(persons(3, number), NONE);
            due("count(0)", town(persons(3, number)).count(0), number);
        }
        dueFault(persons(3, 8), 35);
        dueFault(persons(3, 9), 35);
        dueFault("e9;" + persons(3, 7) + "o6,5,9;p0,0;", 45);
        LadderOfBows x = town(persons(3, 7));
        put(x, persons(0, 8));
        due("lay() of eight", x.lay(), NO);
        due("count(0)", x.count(0), 7);
        due("person(6, 0)", x.person(6, 0), 3);
    }

    private static void bothAreToldAhead() {
        about(4, "both told ahead");
        dueFault("o0,1,1;p0,0;p0,0;", 0);
        dueFault("p0,0;o0,1,1;p0,0;", 5);
        dueFault("p0,0;o1,0,1;p0,0;", 5);
        for (int number = 2; number <= 7; number++) {
            int last = number - 1;
            int behind = 5 * number;
            dueFault(persons(0, number) + "o" + last + ",0,1;", NONE);
            dueFault(persons(0, number) + "o0," + last + ",1;", NONE);
            dueFault(persons(0, number) + "o" + number + ",0,1;", behind);
            dueFault(persons(0, number) + "o0," + number + ",1;", behind);
            dueFault(persons(0, number) + "o" + number + ",0,0;", behind);
            dueFault(persons(0, number) + "o99,0,1;", behind);
            dueFault(persons(0, number) + "o0,99,1;", behind);
        }
    }

    private static void bothAreUnlike() {
        about(4, "unlike");
        for (int i = 0; i < 7; i++) {
            dueFault(persons(0, 7) + "o" + i + "," + i + ",1;", 35);
            dueFault(persons(0, 7) + "o" + i + "," + i + ",0;", 35);
            dueFault(persons(0, 7) + "o0" + i + "," + i + ",9;", 35);
        }
    }

    private static void apologiesFrom0To9() {
        about(4, "N apologies (0 to 9");
        for (int number = 0; number <= 99; number++) {
            dueFault("p0,0;p0,0;o1,0," + number + ";", number <= 9 ? NONE : 10);
            if (number <= 9) {
                due("owes(1, 0)", town("p0,0;p0,0;o1,0," + number + ";").owes(1, 0), number);
                due("owes(1, 0)", town("p0,0;p0,0;o1,0,0" + number + ";").owes(1, 0), number);
            }
        }
    }

    private static void lastOneOfEachTwo() {
        about(4, "the last one of each two");
        LadderOfBows x = town("p0,0;p0,0;p0,0;o0,1,9;o1,0,4;o0,2,3;o0,1,2;o0,2,0;");
        due("owes(0, 1)", x.owes(0, 1), 2);
        due("owes(1, 0)", x.owes(1, 0), 4);
        due("owes(0, 2)", x.owes(0, 2), 0);
        due("person(0, 3)", x.person(0, 3), 2);
        due("count(3)", x.count(3), 6);
        LadderOfBows more = town("p0,0;p0,0;o0,1,0;o0,1,9;");
        due("owes(0, 1)", more.owes(0, 1), 9);
        due("count(3)", more.count(3), 9);
    }

    /** A town in which nothing is owed tells by easter() whether EASTER is still to come. */
    private static void dueEaster(String text, int day) {
        LadderOfBows x = town(text);
        for (int left = day; left > 0; left -= 9) {
            x.days(Math.min(9, left));
        }
        due("easter() of " + text + " on day " + day, x.easter(), day);
        x.days(1);
        due("easter() of " + text + " on day " + (day + 1), x.easter(), NONE);
    }

    private static void easterFrom1To60() {
        about(4, "EASTER is in D days (1 to 60");
        for (int day = 0; day <= 99; day++) {
            dueFault("e" + day + ";", day >= 1 && day <= 60 ? NONE : 0);
            dueFault("p0,0;e" + day + ";", day >= 1 && day <= 60 ? NONE : 5);
        }
        dueEaster("p0,0;e1;", 1);
        dueEaster("p0,0;e01;", 1);
        dueEaster("e2;p0,0;", 2);
        dueEaster("p0,0;e59;", 59);
        dueEaster("p0,0;e60;", 60);
    }

    private static void easterIn40DaysWithout() {
        about(4, "40 without");
        dueEaster("p0,0;", 40);
        LadderOfBows x = town("p0,0;e1;");
        put(x, "p0,0;");
        x.lay();
        fill(x, 2);
        due("easter(): an earlier town's EASTER is forgotten", x.easter(), 2);
        LadderOfBows kept = town("p0,0;e1;");
        put(kept, "p0,0;e61;");
        due("lay()", kept.lay(), NO);
        fill(kept, 2);
        due("easter(): what is not LAID changes nothing", kept.easter(), NONE);
        LadderOfBows asked = town("p0,0;e1;");
        put(asked, "e60;");
        due("fault()", asked.fault(), NONE);
        fill(asked, 2);
        due("easter(): fault() changes nothing", asked.easter(), NONE);
    }

    private static void lastEasterCounts() {
        about(4, "the last one)");
        dueEaster("p0,0;e60;e1;", 1);
        dueEaster("p0,0;e1;e60;", 60);
        dueEaster("e5;p0,0;e7;e6;", 6);
        dueFault("p0,0;e60;e61;", 9);
        dueFault("e0;e5;", 0);
    }

    private static void faultIsTheFirstItemNotSo() {
        about(4, "FAULT: the place of the first letter of the first ITEM that is not so");
        dueFault("x", 0);
        dueFault("p4,4;p5,5;", 0);
        dueFault("p0,0;p0,4;p4,0;", 5);
        dueFault("p0,0;e61;x", 5);
        dueFault("p00,00;e61;", 7);
        dueFault("p0,0;p0,0;o00,01,09;o0,1,10;", 20);
        dueFault("p0,0;p0,0;o0,1,1", 10);
    }

    private static void laidHasAPersonAtLeast() {
        about(5, "of a PERSON at least (NO else");
        String[] none = {"", "e5;", "e1;e60;", "p0,0", "p0,0;x", "x", "e5;p4,0;"};
        for (String text : none) {
            LadderOfBows x = new LadderOfBows();
            put(x, text);
            due("lay() of " + text, x.lay(), NO);
            due("count(0)", x.count(0), 5);
            due("count(3)", x.count(3), 8);
            due("count(7)", x.count(7), text.length());
        }
        for (int number = 1; number <= 7; number++) {
            LadderOfBows x = new LadderOfBows();
            put(x, persons(1, number) + "e5;");
            due("lay() of " + number, x.lay(), number);
            due("count(0)", x.count(0), number);
            due("count(1)", x.count(1), number);
        }
    }

    private static void laidStartsAnew() {
        about(5, "day 0, no ACTS, nothing SILENT, KEPT");
        LadderOfBows x = town(FULL_TEXT);
        x.die(6);
        x.days(9);
        x.keep();
        x.wrong(1, 0);
        x.keep();
        fill(x, 37);
        for (int street = 0; street < 6; street++) {
            x.silent(street % 4);
        }
        due("lay()", x.lay(), 7);
        int[] counts = {7, 7, 0, 9, 0, 0, 0, 200};
        for (int what = 0; what < counts.length; what++) {
            due("count(" + what + ")", x.count(what), counts[what]);
        }
        due("fits(0): nothing is SILENT", x.fits(0), 41);
        due("undo()", x.undo(), NO);
        due("back()", x.back(), NO);
        due("keep()", x.keep(), 1);
        due("silent(0)", x.silent(0), 1);
        due("days(1)", x.days(1), 1);
    }

    private static void laidBehindWhatWasAsked() {
        about(5, "day 0");
        laidBehind("easter()", LadderOfBows::easter);
        laidBehind("year(9999, 60, 0)", x -> x.year(9999, 60, 0));
        laidBehind("stranger(0)", x -> x.stranger(0));
        laidBehind("peace(0)", x -> x.peace(0));
        laidBehind("fits(0)", x -> x.fits(0));
        laidBehind("began()", LadderOfBows::began);
    }

    private static void laidBehind(String call, ToIntFunction<LadderOfBows> question) {
        LadderOfBows x = town(persons(0, 6) + "o0,1,1;o1,2,1;o2,0,1;e60;");
        x.days(3);
        due(call + ", asked again", question.applyAsInt(x), question.applyAsInt(x));
        put(x, "p1,0;p3,1;o0,1,2;");
        due("lay() behind " + call, x.lay(), 2);
        sameAsTwin("lay() behind " + call, x, town("p1,0;p3,1;o0,1,2;"));
    }

    private static void laidKeepsTheText() {
        about(5, "LAID: how many PERSONS");
        LadderOfBows x = new LadderOfBows();
        put(x, "p0,0;");
        due("lay()", x.lay(), 1);
        due("lay() again", x.lay(), 1);
        for (char letter : "p1,1;".toCharArray()) {
            x.write(letter);
        }
        due("lay() of what came behind, too", x.lay(), 2);
        due("wipe()", x.wipe(), 10);
        due("lay() of nothing", x.lay(), NO);
        due("count(0)", x.count(0), 2);
    }

    private static void personsToldOrNone() {
        about(6, "BAD");
        LadderOfBows x = town("p0,1;p3,2;");
        int[] none = {-1, 2, 7, 8, MIN, MAX, 256, 65536, MIN + 1};
        for (int i : none) {
            for (int what = 0; what < 6; what++) {
                due("person(" + i + ", " + what + ")", x.person(i, what), BAD);
            }
        }
        for (int what : new int[] {-1, 6, 7, MIN, MAX, 256, 65536, MIN + 1}) {
            due("person(0, " + what + ")", x.person(0, what), BAD);
            due("person(1, " + what + ")", x.person(1, what), BAD);
            due("person(2, " + what + ")", x.person(2, what), BAD);
        }
        due("person(1, 0)", x.person(1, 0), 3);
        due("person(1, 5)", x.person(1, 5), 1);
        LadderOfBows seven = town(persons(2, 7));
        due("person(6, 0)", seven.person(6, 0), 2);
        due("person(7, 0)", seven.person(7, 0), BAD);
    }

    private static void personOfTheDead() {
        about(6, "PERSONS: such as there are, dead or not");
        for (int kind = 0; kind <= 3; kind++) {
            LadderOfBows x = town("p0,0;p" + kind + ",3;o0,1,4;o1,0,5;");
            x.die(1);
            int[] dead = {kind, 3, 0, 0, 0, 0};
            for (int what = 0; what < 6; what++) {
                due("person(1, " + what + ") of KIND " + kind, x.person(1, what), dead[what]);
            }
            due("person(1, 6)", x.person(1, 6), BAD);
            due("person(0, 3)", x.person(0, 3), 0);
            due("person(0, 4)", x.person(0, 4), 0);
            due("person(0, 5)", x.person(0, 5), 1);
        }
    }

    private static void personOwesAtMost54() {
        about(6, "how much he owes (3), is owed (4)");
        String owing = "", owed = "";
        for (int j = 1; j < 7; j++) {
            owing += "o0," + j + ",9;";
            owed += "o" + j + ",0,9;";
        }
        LadderOfBows x = town(persons(0, 7) + owing + owed);
        due("person(0, 3)", x.person(0, 3), 54);
        due("person(0, 4)", x.person(0, 4), 54);
        due("person(6, 3)", x.person(6, 3), 9);
        due("person(6, 4)", x.person(6, 4), 9);
        LadderOfBows alone = town("p0,0;");
        due("person(0, 3)", alone.person(0, 3), 0);
        due("person(0, 4)", alone.person(0, 4), 0);
    }

    private static void personTakes() {
        about(6, "1 if he TAKES an apology (5; dead: 0)");
        for (int kind = 0; kind <= 3; kind++) {
            LadderOfBows x = town("p" + kind + ",0;p0,0;");
            due("person(0, 5), owing nothing", x.person(0, 5), 1);
            x.wrong(1, 0);
            due("person(0, 5), being owed", x.person(0, 5), 1);
            x.wrong(0, 1);
            due("person(0, 5) of KIND " + kind + ", owing 1", x.person(0, 5), kind == 1 ? 1 : 0);
            x.undo();
            x.die(0);
            due("person(0, 5), dead", x.person(0, 5), 0);
            x.undo();
            due("person(0, 5), alive again", x.person(0, 5), 1);
        }
    }

    private static void owesOfTwo() {
        about(7, "BAD (alike, too)");
        LadderOfBows x = town("p0,0;p0,0;p0,0;o0,2,9;");
        for (int i : new int[] {-1, 3, 7, 8, 64, MIN, MAX}) {
            due("owes(" + i + ", 0)", x.owes(i, 0), BAD);
            due("owes(0, " + i + ")", x.owes(0, i), BAD);
            due("owes(" + i + ", " + i + ")", x.owes(i, i), BAD);
        }
        due("owes(0, 2)", x.owes(0, 2), 9);
        due("owes(2, 0)", x.owes(2, 0), 0);
        x.die(2);
        due("owes(0, 2), one dead", x.owes(0, 2), 0);
        for (int i = 0; i < 3; i++) {
            due("owes(" + i + ", " + i + ")", x.owes(i, i), BAD);
        }
    }

    private static void speakOfTwo() {
        about(8, "BAD (alike, too)");
        LadderOfBows x = town("p0,0;p1,0;p0,0;p0,0;o0,1,1;o3,2,9;");
        for (int i : new int[] {-1, 4, 7, 8, 64, MIN, MAX}) {
            due("speak(" + i + ", 0)", x.speak(i, 0), BAD);
            due("speak(0, " + i + ")", x.speak(0, i), BAD);
            due("speak(" + i + ", " + i + ")", x.speak(i, i), BAD);
        }
        about(8, "if neither owes the other one anything");
        due("speak(0, 1), owing 1", x.speak(0, 1), 0);
        due("speak(1, 0), being owed 1", x.speak(1, 0), 0);
        due("speak(2, 3)", x.speak(2, 3), 0);
        due("speak(0, 2), others being owed", x.speak(0, 2), 1);
        x.bow(0, 1);
        due("speak(0, 1), all being paid", x.speak(0, 1), 1);
        about(8, "Two who are alive");
        x.die(1);
        due("speak(0, 1)", x.speak(0, 1), 0);
        due("speak(1, 0)", x.speak(1, 0), 0);
        x.die(0);
        due("speak(0, 1), both dead", x.speak(0, 1), 0);
        due("speak(1, 1), dead", x.speak(1, 1), BAD);
        due("speak(0, 2)", x.speak(0, 2), 0);
    }
}
