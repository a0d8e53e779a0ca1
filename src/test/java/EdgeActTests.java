import java.util.function.ToIntFunction;

/** Promises 9 to 15 and 32 to 34: each sentence of a boundary in ACTS, in what is UNDONE and in what is KEPT. */
public final class EdgeActTests extends Checks {
    /** Numbers that are no PERSON in any town. */
    private static final int[] NO_PERSONS = {-1, 7, 8, 63, 64, 256, 65536, MIN, MAX};

    public static void main(String[] args) {
        nobodyOutsideThePersons();
        alikeIsBad();
        wrongsTo9();
        wrongsOfTheDead();
        bowsOfEachKind();
        bowsToOneWhoTakes();
        bowsOfNothing();
        bowsOfTheDead();
        drunkOnEvenAndOddDays();
        refusalsTo9();
        refusalsThatCouldNotBe();
        atOnceOfTwo();
        atOnceThatCanNotBe();
        deathsToTheLast();
        theDeadOweNothingEver();
        daysFrom1To9();
        sevenPartsTheDay();
        priestsOwe9AtMost();
        actsAtMost40();
        badAndNoAreAheadOfFull();
        refusedActsAreNoActs();
        undoneAsOftenAsThereAreAny();
        undoneOfEachAct();
        undoneMakesRoom();
        keptAtMost2();
        keptOfNoActsAndOfAll();
        keptStaysAsItWas();
        keptIsNeitherTextNorSilence();
        countsToldOrNone();
        end();
    }

    private static void nobodyOutsideThePersons() {
        for (int persons = 1; persons <= 7; persons++) {
            LadderOfBows x = town(persons(0, persons));
            dueNobody(x, persons);
            for (int i : NO_PERSONS) {
                dueNobody(x, i);
            }
            about(13, "BAD");
            due("count(4)", x.count(4), 0);
            due("die(" + (persons - 1) + ")", x.die(persons - 1), persons - 1);
        }
    }

    private static void dueNobody(LadderOfBows x, int i) {
        about(9, "BAD");
        due("wrong(" + i + ", 0)", x.wrong(i, 0), BAD);
        due("wrong(0, " + i + ")", x.wrong(0, i), BAD);
        about(10, "BAD");
        due("bow(" + i + ", 0)", x.bow(i, 0), BAD);
        due("bow(0, " + i + ")", x.bow(0, i), BAD);
        about(11, "BAD");
        due("refuse(" + i + ", 0)", x.refuse(i, 0), BAD);
        due("refuse(0, " + i + ")", x.refuse(0, i), BAD);
        about(12, "BAD");
        due("atOnce(" + i + ", 0)", x.atOnce(i, 0), BAD);
        due("atOnce(0, " + i + ")", x.atOnce(0, i), BAD);
        about(13, "BAD");
        due("die(" + i + ")", x.die(i), BAD);
    }

    private static void alikeIsBad() {
        LadderOfBows x = town("p0,0;p1,0;p0,0;o0,1,1;o1,0,1;");
        x.die(2);
        for (int i = 0; i < 3; i++) {
            about(9, "alike, too");
            due("wrong(" + i + ", " + i + ")", x.wrong(i, i), BAD);
            about(10, "alike, too");
            due("bow(" + i + ", " + i + ")", x.bow(i, i), BAD);
            about(11, "alike, too");
            due("refuse(" + i + ", " + i + ")", x.refuse(i, i), BAD);
            about(12, "alike, too");
            due("atOnce(" + i + ", " + i + ")", x.atOnce(i, i), BAD);
        }
        due("count(4)", x.count(4), 1);
    }

    private static void wrongsTo9() {
        about(9, "it is 9");
        LadderOfBows x = town("p0,0;p0,0;");
        for (int k = 1; k <= 9; k++) {
            due("wrong(0, 1)", x.wrong(0, 1), k);
        }
        due("wrong(0, 1) behind 9", x.wrong(0, 1), NO);
        due("owes(0, 1)", x.owes(0, 1), 9);
        due("count(4)", x.count(4), 9);
        due("wrong(1, 0), the other way", x.wrong(1, 0), 1);
        due("undo()", x.undo(), 9);
        due("bow(0, 1)", x.bow(0, 1), 8);
        due("wrong(0, 1), 8 being owed again", x.wrong(0, 1), 9);
    }

    private static void wrongsOfTheDead() {
        about(9, "one is dead");
        LadderOfBows x = town(persons(1, 3));
        x.die(1);
        due("wrong(0, 1)", x.wrong(0, 1), NO);
        due("wrong(1, 0)", x.wrong(1, 0), NO);
        due("wrong(0, 2)", x.wrong(0, 2), 1);
        x.die(2);
        due("wrong(1, 2), both dead", x.wrong(1, 2), NO);
        due("count(4)", x.count(4), 3);
        due("count(3)", x.count(3), 0);
    }

    private static void bowsOfEachKind() {
        about(10, "pays 1 of that; a CHILD all of it");
        int[] behindOne = {8, 8, 0, 8};
        for (int kind = 0; kind <= 3; kind++) {
            LadderOfBows x = town("p" + kind + ",0;p0,0;o0,1,9;");
            due("bow(0, 1) of KIND " + kind, x.bow(0, 1), behindOne[kind]);
            for (int owed = behindOne[kind] - 1; owed >= 0; owed--) {
                due("bow(0, 1) of KIND " + kind, x.bow(0, 1), owed);
            }
            due("bow(0, 1), nothing being owed", x.bow(0, 1), NO);
            due("count(4)", x.count(4), kind == 2 ? 1 : 9);
            due("bow(0, 1) of the last one", town("p" + kind + ",0;p0,0;o0,1,1;").bow(0, 1), 0);
        }
    }

    private static void bowsToOneWhoTakes() {
        about(10, "A PERSON TAKES an apology, if he owes nobody anything; a PRIEST always does");
        for (int kind = 0; kind <= 3; kind++) {
            String ahead = "p0,0;p" + kind + ",0;p0,0;o0,1,2;";
            due("bow(0, 1), 1 owing nothing", town(ahead).bow(0, 1), 1);
            due("bow(0, 1), 1 owing 1 to another one", town(ahead + "o1,2,1;").bow(0, 1), kind == 1 ? 1 : NO);
            due("bow(0, 1), 1 owing 1 to him", town(ahead + "o1,0,1;").bow(0, 1), kind == 1 ? 1 : NO);
            due("bow(0, 1), 1 owing all 9", town(ahead + "o1,0,9;o1,2,9;").bow(0, 1), kind == 1 ? 1 : NO);
            due("bow(0, 1), 1 being owed", town(ahead + "o2,1,9;").bow(0, 1), 1);
            due("bow(0, 1), he owing another one too", town(ahead + "o0,2,9;").bow(0, 1), 1);
        }
    }

    private static void bowsOfNothing() {
        about(10, "one who owes another one something");
        LadderOfBows x = town("p0,0;p1,0;p2,0;p3,0;o3,2,1;");
        for (int i = 0; i < 3; i++) {
            for (int j = 0; j < 4; j++) {
                if (i != j) {
                    due("bow(" + i + ", " + j + ")", x.bow(i, j), NO);
                }
            }
        }
        due("count(4)", x.count(4), 0);
    }

    private static void bowsOfTheDead() {
        about(10, "NO");
        LadderOfBows x = town("p0,0;p1,0;o0,1,2;o1,0,3;");
        x.die(1);
        due("bow(0, 1)", x.bow(0, 1), NO);
        due("bow(1, 0)", x.bow(1, 0), NO);
        about(11, "it could not be");
        due("refuse(0, 1)", x.refuse(0, 1), NO);
        due("refuse(1, 0)", x.refuse(1, 0), NO);
        about(12, "NO");
        due("atOnce(0, 1)", x.atOnce(0, 1), NO);
        due("atOnce(1, 0)", x.atOnce(1, 0), NO);
        due("count(4)", x.count(4), 1);
    }

    private static void drunkOnEvenAndOddDays() {
        about(10, "a DRUNK one 1 on an even day, on an odd one nothing");
        LadderOfBows x = town("p3,0;p0,0;o0,1,9;");
        int owed = 9;
        for (int day = 0; day <= 8; day++) {
            owed -= day % 2 == 0 ? 1 : 0;
            due("bow(0, 1) on day " + day, x.bow(0, 1), owed);
            due("count(4)", x.count(4), 2 * day + 1);
            x.days(1);
        }
        due("day 9", x.count(2), 9);
        x.undo();
        due("bow(0, 1), the day being UNDONE", x.bow(0, 1), owed - 1);
    }

    private static void refusalsTo9() {
        about(11, "1 more is owed (9 at most)");
        for (int kind = 0; kind <= 3; kind++) {
            LadderOfBows x = town("p" + kind + ",0;p0,0;o0,1,1;");
            for (int owed = 2; owed <= 9; owed++) {
                due("refuse(0, 1) of KIND " + kind, x.refuse(0, 1), owed);
            }
            due("refuse(0, 1) behind 9", x.refuse(0, 1), NO);
            due("owes(0, 1)", x.owes(0, 1), 9);
            due("count(4)", x.count(4), 8);
        }
    }

    private static void refusalsThatCouldNotBe() {
        about(11, "it could not be");
        for (int kind = 0; kind <= 3; kind++) {
            LadderOfBows x = town("p0,0;p" + kind + ",0;p0,0;o0,1,1;o1,2,1;");
            due("refuse(0, 1) by KIND " + kind + ", who owes", x.refuse(0, 1), kind == 1 ? 2 : NO);
            due("refuse(1, 0), nothing being owed", x.refuse(1, 0), NO);
            due("refuse(2, 1), nothing being owed", x.refuse(2, 1), NO);
            due("refuse(1, 2)", x.refuse(1, 2), 2);
        }
        about(11, "REFUSED is a BOW that could be");
        LadderOfBows odd = town("p3,0;p0,0;o0,1,8;");
        odd.days(1);
        due("refuse(0, 1) of a DRUNK one, odd", odd.refuse(0, 1), 9);
        due("refuse(0, 1) behind 9", odd.refuse(0, 1), NO);
    }

    private static void atOnceOfTwo() {
        about(12, "BOW, both, each as above");
        due("atOnce(0, 1) of 1 and 1", town("p0,0;p0,0;o0,1,1;o1,0,1;").atOnce(0, 1), 0);
        due("atOnce(0, 1) of 9 and 9", town("p0,0;p0,0;o0,1,9;o1,0,9;").atOnce(0, 1), 16);
        due("atOnce(1, 0) of 9 and 1", town("p0,0;p0,0;o0,1,9;o1,0,1;").atOnce(1, 0), 8);
        due("atOnce(0, 1) of a CHILD", town("p2,0;p0,0;o0,1,9;o1,0,9;").atOnce(0, 1), 8);
        due("atOnce(0, 1) of two CHILDREN", town("p2,0;p2,0;o0,1,9;o1,0,9;").atOnce(0, 1), 0);
        due("atOnce(0, 1) of two PRIESTS", town("p1,0;p1,0;o0,1,2;o1,0,2;").atOnce(0, 1), 2);
        LadderOfBows drunk = town("p3,0;p0,0;o0,1,5;o1,0,5;");
        due("atOnce(0, 1), day 0", drunk.atOnce(0, 1), 8);
        drunk.days(1);
        due("atOnce(0, 1), day 1", drunk.atOnce(0, 1), 7);
        due("owes(0, 1)", drunk.owes(0, 1), 4);
        due("owes(1, 0)", drunk.owes(1, 0), 3);
        LadderOfBows drunks = town("p3,0;p3,0;o0,1,5;o1,0,5;");
        drunks.days(1);
        due("atOnce(0, 1) of two DRUNK ones, day 1", drunks.atOnce(0, 1), 10);
        due("count(4): nothing paid is an ACT, too", drunks.count(4), 2);
        due("atOnce(0, 1), being owed by a third one", town("p0,0;p0,0;p0,0;o0,1,1;o1,0,1;o2,0,9;").atOnce(0, 1), 0);
    }

    private static void atOnceThatCanNotBe() {
        about(12, "two who owe each other, and nobody else anything");
        due("atOnce(0, 1), nothing owed", town("p0,0;p0,0;").atOnce(0, 1), NO);
        due("atOnce(0, 1), one way", town("p0,0;p0,0;o0,1,9;").atOnce(0, 1), NO);
        due("atOnce(0, 1), the other way", town("p0,0;p0,0;o1,0,9;").atOnce(0, 1), NO);
        for (int kind = 0; kind <= 3; kind++) {
            String two = "p" + kind + ",0;p" + kind + ",0;p0,0;o0,1,1;o1,0,1;";
            due("atOnce(0, 1), 0 owing a third one 1", town(two + "o0,2,1;").atOnce(0, 1), NO);
            due("atOnce(0, 1), 1 owing a third one 1", town(two + "o1,2,1;").atOnce(0, 1), NO);
            due("atOnce(1, 0), 0 owing a third one 1", town(two + "o0,2,1;").atOnce(1, 0), NO);
            due("atOnce(1, 0)", town(two).atOnce(1, 0), 0);
        }
    }

    private static void deathsToTheLast() {
        about(13, "how many are alive");
        LadderOfBows x = town(persons(1, 7));
        for (int i = 6; i >= 0; i--) {
            due("die(" + i + ")", x.die(i), i);
            about(13, "NO: he is dead");
            due("die(" + i + ") again", x.die(i), NO);
            about(13, "how many are alive");
        }
        due("count(4)", x.count(4), 7);
        due("count(1)", x.count(1), 0);
        due("count(0)", x.count(0), 7);
        due("die(7)", x.die(7), BAD);
        due("undo()", x.undo(), 6);
        due("die(0)", x.die(0), 0);
    }

    private static void theDeadOweNothingEver() {
        about(13, "Who dies owes and is owed nothing, ever");
        LadderOfBows x = town("p1,0;p1,0;p0,0;o0,1,9;o1,0,9;o1,2,4;o2,1,3;o0,2,2;");
        x.die(1);
        due("count(3)", x.count(3), 2);
        due("person(0, 4)", x.person(0, 4), 0);
        x.days(7);
        due("owes(0, 1) on day 7", x.owes(0, 1), 0);
        due("owes(1, 0) on day 7", x.owes(1, 0), 0);
        due("owes(1, 2) on day 7", x.owes(1, 2), 0);
        due("owes(0, 2) on day 7", x.owes(0, 2), 3);
        x.undo();
        x.undo();
        due("owes(1, 0), the death being UNDONE", x.owes(1, 0), 9);
    }

    private static void daysFrom1To9() {
        about(14, "n DAYS (1 to 9)");
        for (int n : new int[] {0, 10, -1, 11, 256, 65536, 257, MIN, MAX, MIN + 1}) {
            LadderOfBows x = new LadderOfBows();
            due("days(" + n + ")", x.days(n), BAD);
            due("count(2)", x.count(2), 0);
            due("count(4)", x.count(4), 0);
        }
        for (int n = 1; n <= 9; n++) {
            LadderOfBows x = new LadderOfBows();
            due("days(" + n + ")", x.days(n), n);
            about(14, "one ACT");
            due("count(4)", x.count(4), 1);
            due("undo()", x.undo(), 0);
            due("count(2)", x.count(2), 0);
            about(14, "n DAYS (1 to 9)");
        }
        LadderOfBows x = town("p0,0;");
        for (int k = 1; k <= 40; k++) {
            due("days(9)", x.days(9), 9 * k);
        }
        due("days(9) behind 40", x.days(9), FULL);
        due("count(2)", x.count(2), 360);
        x.undo();
        x.undo();
        x.die(0);
        due("days(1), nobody being alive", x.days(1), 343);
    }

    private static void sevenPartsTheDay() {
        about(14, "if 7 parts it");
        LadderOfBows x = town("p1,0;p0,0;p2,0;p3,0;");
        for (int day = 1; day <= 29; day++) {
            due("days(1)", x.days(1), day);
            due("count(3) on day " + day, x.count(3), day / 7 * 3);
        }
        due("owes(0, 3)", x.owes(0, 3), 4);
        due("owes(1, 0)", x.owes(1, 0), 0);
        LadderOfBows six = town("p1,0;p0,0;");
        six.days(6);
        due("days(8): day 7 and day 14", six.days(8), 14);
        due("owes(0, 1)", six.owes(0, 1), 2);
        due("days(6)", six.days(6), 20);
        due("owes(0, 1)", six.owes(0, 1), 2);
        due("days(9)", six.days(9), 29);
        due("owes(0, 1): day 21 and day 28", six.owes(0, 1), 4);
        due("day 0 is none", town("p1,0;p0,0;").count(3), 0);
    }

    private static void priestsOwe9AtMost() {
        about(14, "owes 1 more (9 at most)");
        LadderOfBows x = town(persons(1, 7));
        for (int week = 1; week <= 11; week++) {
            due("days(7)", x.days(7), 7 * week);
            due("count(3)", x.count(3), 42 * Math.min(9, week));
        }
        for (int i = 0; i < 7; i++) {
            due("person(" + i + ", 3)", x.person(i, 3), 54);
            due("person(" + i + ", 4)", x.person(i, 4), 54);
        }
        due("owes(6, 0)", x.owes(6, 0), 9);
        LadderOfBows alone = town("p1,0;");
        alone.days(7);
        due("count(3) of a PRIEST alone", alone.count(3), 0);
    }

    private static final String[] ACTS = {"wrong(0, 1)", "bow(2, 3)", "refuse(2, 3)", "atOnce(4, 5)", "die(6)", "days(9)"};

    private static int act(LadderOfBows x, int kind) {
        switch (kind) {
            case 0: return x.wrong(0, 1);
            case 1: return x.bow(2, 3);
            case 2: return x.refuse(2, 3);
            case 3: return x.atOnce(4, 5);
            case 4: return x.die(6);
            default: return x.days(9);
        }
    }

    private static LadderOfBows townWithActs(int acts) {
        LadderOfBows x = town(persons(0, 7) + "o2,3,5;o4,5,5;o5,4,5;");
        fill(x, acts);
        return x;
    }

    private static void actsAtMost40() {
        int[] answers = {1, 4, 6, 8, 6, 48};
        for (int kind = 0; kind < ACTS.length; kind++) {
            int one = kind;
            about(9 + kind, "told one behind the other (40 at most)");
            LadderOfBows x = townWithActs(39);
            due(ACTS[kind] + " as the 40th", act(x, kind), answers[kind]);
            due("count(4)", x.count(4), 40);
            about(9 + kind, "FULL");
            refused(() -> townWithActs(40), ACTS[kind] + " as the 41st", y -> act(y, one), FULL);
        }
    }

    private static void badAndNoAreAheadOfFull() {
        LadderOfBows x = town("p0,0;p0,0;p0,0;o0,1,9;o1,2,1;");
        x.die(2);
        fill(x, 39);
        due("count(4)", x.count(4), 40);
        dueBadAheadOfFull(x);
        about(9, "Of several the first");
        due("wrong(0, 1): it is 9", x.wrong(0, 1), NO);
        due("wrong(0, 2): one is dead", x.wrong(0, 2), NO);
        due("wrong(1, 0)", x.wrong(1, 0), FULL);
        about(10, "Of several the first");
        due("bow(1, 0): nothing is owed", x.bow(1, 0), NO);
        due("bow(0, 1)", x.bow(0, 1), FULL);
        about(11, "Of several the first");
        due("refuse(0, 1): it is 9", x.refuse(0, 1), NO);
        due("refuse(1, 0): it could not be", x.refuse(1, 0), NO);
        about(12, "Of several the first");
        due("atOnce(0, 1)", x.atOnce(0, 1), NO);
        about(13, "Of several the first");
        due("die(2): he is dead", x.die(2), NO);
        due("die(1)", x.die(1), FULL);
    }

    private static void dueBadAheadOfFull(LadderOfBows x) {
        about(9, "Of several the first");
        due("wrong(2, 2)", x.wrong(2, 2), BAD);
        due("wrong(3, 2)", x.wrong(3, 2), BAD);
        about(10, "Of several the first");
        due("bow(2, 2)", x.bow(2, 2), BAD);
        due("bow(2, 3)", x.bow(2, 3), BAD);
        about(11, "Of several the first");
        due("refuse(2, 2)", x.refuse(2, 2), BAD);
        due("refuse(-1, 2)", x.refuse(-1, 2), BAD);
        about(12, "Of several the first");
        due("atOnce(2, 2)", x.atOnce(2, 2), BAD);
        due("atOnce(2, -1)", x.atOnce(2, -1), BAD);
        about(13, "Of several the first");
        due("die(3)", x.die(3), BAD);
        about(14, "Of several the first");
        due("days(0)", x.days(0), BAD);
        due("days(10)", x.days(10), BAD);
        due("days(1)", x.days(1), FULL);
    }

    private static LadderOfBows townOfNo() {
        LadderOfBows x = town("p0,0;p0,0;p0,0;p0,0;p0,1;o0,1,9;o1,2,1;o3,2,9;");
        x.keep();
        x.silent(0);
        x.days(3);
        x.die(4);
        return x;
    }

    private static void dueRefused(int promise, String why, String call, ToIntFunction<LadderOfBows> asking) {
        about(promise, why + "; nothing changes then");
        refused(EdgeActTests::townOfNo, call, asking, NO);
    }

    private static void refusedActsAreNoActs() {
        dueRefused(9, "it is 9", "wrong(0, 1)", x -> x.wrong(0, 1));
        dueRefused(9, "one is dead", "wrong(0, 4)", x -> x.wrong(0, 4));
        dueRefused(9, "one is dead", "wrong(4, 0)", x -> x.wrong(4, 0));
        dueRefused(10, "NO", "bow(0, 1)", x -> x.bow(0, 1));
        dueRefused(10, "NO", "bow(2, 1)", x -> x.bow(2, 1));
        dueRefused(11, "it could not be", "refuse(0, 1)", x -> x.refuse(0, 1));
        dueRefused(11, "it is 9", "refuse(3, 2)", x -> x.refuse(3, 2));
        dueRefused(12, "NO", "atOnce(0, 1)", x -> x.atOnce(0, 1));
        dueRefused(13, "he is dead", "die(4)", x -> x.die(4));
        about(15, "NO; nothing changes then");
        refused(LadderOfBows::new, "undo()", LadderOfBows::undo, NO);
        about(33, "NO; nothing changes then");
        refused(() -> townWithActs(7), "back()", LadderOfBows::back, NO);
    }

    private static void undoneAsOftenAsThereAreAny() {
        about(15, "UNDONE is the latest ACT, as often as there are any");
        due("undo() of none", new LadderOfBows().undo(), NO);
        LadderOfBows x = townWithActs(40);
        for (int left = 39; left >= 0; left--) {
            due("undo()", x.undo(), left);
            due("count(2)", x.count(2), left);
        }
        due("undo() of none", x.undo(), NO);
        due("undo() of none, again", x.undo(), NO);
        due("count(4)", x.count(4), 0);
    }

    private static void undoneOfEachAct() {
        about(15, "UNDONE is the latest ACT");
        for (int kind = 0; kind < ACTS.length; kind++) {
            LadderOfBows x = townWithActs(2);
            act(x, kind);
            due("undo() of " + ACTS[kind], x.undo(), 2);
            sameAsTwin("undo() of " + ACTS[kind], x, townWithActs(2));
        }
    }

    private static void undoneMakesRoom() {
        about(15, "how many ACTS are left");
        LadderOfBows x = townWithActs(40);
        due("wrong(0, 1)", x.wrong(0, 1), FULL);
        due("undo()", x.undo(), 39);
        due("wrong(0, 1)", x.wrong(0, 1), 1);
        due("wrong(0, 1)", x.wrong(0, 1), FULL);
        due("undo()", x.undo(), 39);
        due("owes(0, 1)", x.owes(0, 1), 0);
        due("days(9)", x.days(9), 48);
        due("days(9)", x.days(9), FULL);
    }

    private static void keptAtMost2() {
        about(32, "2 at most");
        LadderOfBows x = townWithActs(1);
        due("keep()", x.keep(), 1);
        due("keep()", x.keep(), 2);
        due("keep() behind 2", x.keep(), FULL);
        due("count(6)", x.count(6), 2);
        about(33, "how many are left");
        due("back()", x.back(), 1);
        due("keep()", x.keep(), 2);
        due("keep() behind 2", x.keep(), FULL);
        due("back()", x.back(), 1);
        due("back()", x.back(), 0);
        due("back() of none", x.back(), NO);
        due("count(6)", x.count(6), 0);
        about(32, "FULL; nothing changes then");
        refused(EdgeActTests::townWithTwoKept, "keep()", LadderOfBows::keep, FULL);
    }

    private static LadderOfBows townWithTwoKept() {
        LadderOfBows x = townWithActs(1);
        x.keep();
        x.wrong(0, 1);
        x.keep();
        x.die(0);
        return x;
    }

    private static void keptOfNoActsAndOfAll() {
        about(32, "KEPT are all ACTS");
        LadderOfBows x = townWithActs(0);
        due("keep() of no ACTS", x.keep(), 1);
        fill(x, 40);
        due("keep() of 40 ACTS", x.keep(), 2);
        for (int k = 0; k < 40; k++) {
            x.undo();
        }
        due("back()", x.back(), 1);
        due("count(4)", x.count(4), 40);
        due("count(2)", x.count(2), 40);
        due("days(1)", x.days(1), FULL);
        due("undo()", x.undo(), 39);
        due("count(2)", x.count(2), 39);
        due("back()", x.back(), 0);
        due("count(4)", x.count(4), 0);
        due("count(2)", x.count(2), 0);
        due("undo()", x.undo(), NO);
    }

    private static void keptStaysAsItWas() {
        about(33, "As KEPT last");
        LadderOfBows x = townWithTwoKept();
        x.undo();
        x.undo();
        x.undo();
        x.wrong(6, 5);
        due("back()", x.back(), 1);
        due("owes(0, 1)", x.owes(0, 1), 1);
        due("owes(6, 5)", x.owes(6, 5), 0);
        due("count(4)", x.count(4), 2);
        x.undo();
        x.undo();
        x.die(3);
        due("back()", x.back(), 0);
        due("count(1)", x.count(1), 7);
        due("owes(0, 1)", x.owes(0, 1), 0);
        due("count(2)", x.count(2), 1);
        due("count(4)", x.count(4), 1);
        LadderOfBows both = townWithActs(0);
        both.wrong(0, 1);
        both.keep();
        both.undo();
        both.wrong(0, 2);
        due("back()", both.back(), 0);
        due("owes(0, 1): who is wronged is KEPT, too", both.owes(0, 1), 1);
        due("owes(0, 2)", both.owes(0, 2), 0);
        both.days(3);
        both.keep();
        both.undo();
        both.days(4);
        due("back()", both.back(), 0);
        due("count(2): how many DAYS is KEPT, too", both.count(2), 3);
    }

    private static void keptIsNeitherTextNorSilence() {
        about(33, "KEPT are all ACTS");
        LadderOfBows x = townWithTwoKept();
        int letters = x.count(7);
        x.write('e');
        x.silent(3);
        due("back()", x.back(), 1);
        due("count(5)", x.count(5), 1);
        due("count(7)", x.count(7), letters + 1);
    }

    private static void countsToldOrNone() {
        about(34, "BAD");
        LadderOfBows x = townWithTwoKept();
        x.silent(0);
        for (int what : new int[] {-1, 8, 9, 256, 65536, MIN, MAX, MIN + 1}) {
            due("count(" + what + ")", x.count(what), BAD);
        }
        about(34, "How many");
        int[] counts = {7, 6, 1, 15, 3, 1, 2, 56};
        for (int what = 0; what < counts.length; what++) {
            due("count(" + what + ")", x.count(what), counts[what]);
        }
    }
}
