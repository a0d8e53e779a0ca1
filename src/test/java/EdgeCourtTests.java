/** Promises 25 to 31: each sentence of a boundary in courts, with a stranger, to EASTER, in silence and in years. */
public final class EdgeCourtTests extends Checks {
    private static final String RING = persons(0, 3) + "o0,1,1;o1,2,1;o2,0,1;";

    public static void main(String[] args) {
        courtToldOrNone();
        courtOfNotSoMany();
        courtInLowestTerms();
        courtOfMostDebts();
        strangerToldOrNone();
        strangerAmong7();
        strangerAmongTheDead();
        strangerAnd100();
        easterOnTheFirstDay();
        easterToEasterItself();
        easterBehindEaster();
        easterPeaceOfEachDay();
        silentFromStreet0To3();
        silentAtMost6();
        forgetHowManyWere();
        fitsToldOrNone();
        fitsNothingSilent();
        fitsFirstAndLast();
        fitsAliveAndUnlike();
        fitsWhere9AreOwed();
        fitsInEachStreet();
        yearToldOrNone();
        yearOfFirstAndLastZ();
        yearOfOneStepAndOf60();
        yearFromNowOn();
        yearAlikeAndDead();
        end();
    }

    private static void dueCourt(LadderOfBows x, int n, int above, int below) {
        due("court(" + n + ", 0)", x.court(n, 0), above);
        due("court(" + n + ", 1)", x.court(n, 1), below);
    }

    private static void courtToldOrNone() {
        about(25, "n (0 to 2)");
        LadderOfBows none = town("p0,0;");
        LadderOfBows ring = town(RING);
        for (int n : new int[] {-1, 3, 4, 256, 65536, MIN, MAX}) {
            dueCourt(ring, n, BAD, BAD);
            dueCourt(none, n, BAD, BAD);
        }
        about(25, "BAD");
        for (int part : new int[] {-1, 2, 3, 256, 65536, MIN, MAX}) {
            for (int n = 0; n <= 2; n++) {
                due("court(" + n + ", " + part + ")", ring.court(n, part), BAD);
                due("court(" + n + ", " + part + "): BAD is ahead of NONE", none.court(n, part), BAD);
            }
        }
    }

    private static void courtOfNotSoMany() {
        about(25, "none (there are not so many)");
        LadderOfBows none = town("p0,0;p0,0;");
        dueCourt(none, 0, 1, 1);
        dueCourt(none, 1, NONE, NONE);
        dueCourt(none, 2, NONE, NONE);
        LadderOfBows one = town("p0,0;p0,0;o1,0,9;");
        dueCourt(one, 0, 1, 1);
        dueCourt(one, 1, 1, 1);
        dueCourt(one, 2, NONE, NONE);
        one.wrong(0, 1);
        dueCourt(one, 2, 1, 1);
        one.die(0);
        dueCourt(one, 0, 1, 1);
        dueCourt(one, 1, NONE, NONE);
        about(25, "each that is something");
        LadderOfBows paid = town("p0,0;p0,0;o0,1,0;o1,0,1;");
        dueCourt(paid, 1, 1, 1);
        dueCourt(paid, 2, NONE, NONE);
    }

    private static void courtInLowestTerms() {
        about(25, "in lowest terms");
        LadderOfBows ring = town(RING);
        dueCourt(ring, 0, 0, 1);
        dueCourt(ring, 1, 1, 1);
        dueCourt(ring, 2, 1, 1);
        // a ring of three, and three who wait for it: 3 of 6 debts free it; of 15 twos 3 are of those who wait alone
        LadderOfBows waiting = town(persons(0, 6) + "o0,1,1;o1,2,1;o2,0,1;o3,0,1;o4,0,1;o5,0,1;");
        dueCourt(waiting, 0, 0, 1);
        dueCourt(waiting, 1, 1, 2);
        dueCourt(waiting, 2, 4, 5);
        about(25, "whatever it is of, being as likely");
        LadderOfBows unlike = town(persons(0, 4) + "o0,1,9;o1,2,9;o2,0,9;o3,0,1;");
        dueCourt(unlike, 1, 3, 4);
        LadderOfBows two = town(persons(0, 6) + "o0,1,1;o1,2,1;o2,0,1;o3,4,1;o4,5,1;o5,3,1;");
        dueCourt(two, 0, 0, 1);
        dueCourt(two, 1, 0, 1);
        about(25, "no debt twice");
        // 9 of 15 twos, not 18 of 36
        dueCourt(two, 2, 3, 5);
    }

    private static void courtOfMostDebts() {
        about(25, "n (0 to 2)");
        LadderOfBows priests = town(persons(1, 7));
        priests.days(7);
        for (int n = 0; n <= 2; n++) {
            dueCourt(priests, n, 1, 1);
        }
        // seven, all owing all: 42 debts, 861 twos of which none frees anything
        LadderOfBows plain = town(persons(0, 7));
        for (int i = 0; i < 7; i++) {
            for (int j = 0; j < 7; j++) {
                if (i != j && plain.count(4) < 40) {
                    plain.wrong(i, j);
                }
            }
        }
        for (int n = 0; n <= 2; n++) {
            dueCourt(plain, n, 0, 1);
        }
    }

    private static void strangerToldOrNone() {
        about(26, "BAD");
        LadderOfBows seven = town(persons(0, 7));
        for (int what : new int[] {-1, 2, 3, 256, 65536, MIN, MAX}) {
            due("stranger(" + what + ")", new LadderOfBows().stranger(what), BAD);
            due("stranger(" + what + "): BAD is ahead of FULL", seven.stranger(what), BAD);
        }
    }

    private static void strangerAmong7() {
        about(26, "FULL: there are 7");
        for (int persons = 1; persons <= 6; persons++) {
            due("stranger(0) of " + persons, town(persons(0, persons)).stranger(0), 100 + persons);
            due("stranger(1) of " + persons, town(persons(0, persons)).stranger(1), 100);
        }
        LadderOfBows seven = town(persons(0, 7));
        due("stranger(0) of 7", seven.stranger(0), FULL);
        due("stranger(1) of 7", seven.stranger(1), FULL);
        seven.die(6);
        due("stranger(0) of 7, one dead", seven.stranger(0), FULL);
        due("stranger(1) of 7, one dead", seven.stranger(1), FULL);
    }

    private static void strangerAmongTheDead() {
        about(26, "who owes everybody who is alive 1");
        LadderOfBows x = town(persons(0, 6));
        for (int i = 0; i < 6; i++) {
            x.die(i);
            due("stranger(0)", x.stranger(0), 100 + 5 - i);
            due("stranger(1)", x.stranger(1), 100);
        }
    }

    private static void strangerAnd100() {
        about(26, "how much more is owed behind it, and 100");
        LadderOfBows six = town(persons(0, 6) + "o0,1,9;o1,2,9;o2,3,9;o3,4,9;o4,5,9;o5,0,9;");
        due("stranger(0): nobody TAKES", six.stranger(0), 100);
        due("stranger(1)", six.stranger(1), 106);
        due("peace(1): nothing changes", six.peace(1), 54);
        due("count(0): nothing changes", six.count(0), 6);
        LadderOfBows drunk = town("p3,0;p0,0;o0,1,9;");
        due("stranger(0), day 0", drunk.stranger(0), 102);
        drunk.days(1);
        due("stranger(0), day 1", drunk.stranger(0), 101);
        due("stranger(1), day 1", drunk.stranger(1), 101);
    }

    private static void easterOnTheFirstDay() {
        about(27, "in days from now on");
        due("easter() of a new object", new LadderOfBows().easter(), 0);
        due("easter(), nothing being owed", town("p0,0;").easter(), 0);
        LadderOfBows x = town("p0,0;p0,0;o0,1,9;e60;");
        x.days(5);
        due("easter() on day 5", x.easter(), 5);
        LadderOfBows dead = town("p0,0;");
        dead.die(0);
        due("easter(), nobody being alive", dead.easter(), 0);
    }

    private static void easterToEasterItself() {
        about(27, "to EASTER (told days from day 0)");
        for (int day = 2; day <= 60; day += 2) {
            LadderOfBows x = town("p3,0;p0,0;o0,1,9;e" + day + ";");
            for (int left = day - 1; left > 0; left -= 9) {
                x.days(Math.min(9, left));
            }
            due("easter() on day " + (day - 1) + ", EASTER on day " + day, x.easter(), day);
            LadderOfBows early = town("p3,0;p0,0;o0,1,9;e" + (day - 1) + ";");
            for (int left = day - 1; left > 0; left -= 9) {
                early.days(Math.min(9, left));
            }
            due("easter() on day " + (day - 1) + ", which is EASTER", early.easter(), NONE);
        }
        due("easter() of a ring", town(RING + "e60;").easter(), NONE);
    }

    private static void easterBehindEaster() {
        about(27, "NONE");
        LadderOfBows x = town("p0,0;e1;");
        x.days(1);
        due("easter() on EASTER", x.easter(), 1);
        x.days(1);
        due("easter() behind EASTER, though nothing is owed", x.easter(), NONE);
        x.undo();
        due("easter() on EASTER again", x.easter(), 1);
        x.days(9);
        due("easter() long behind EASTER", x.easter(), NONE);
    }

    private static void easterPeaceOfEachDay() {
        about(27, "PEACE being made on each day ahead of its end");
        // on day 7 the PRIEST owes the DRUNK one, too, and pays AT ONCE; the DRUNK one pays on day 8
        LadderOfBows x = town("p1,0;p3,0;o1,0,1;e8;");
        x.days(7);
        due("easter() on day 7", x.easter(), 8);
        LadderOfBows none = town("p1,0;p3,0;o1,0,1;e7;");
        none.days(7);
        due("easter() on day 7, which is EASTER", none.easter(), NONE);
        due("count(2): nothing changes", none.count(2), 7);
        due("count(3): nothing changes", none.count(3), 2);
    }

    private static void silentFromStreet0To3() {
        about(28, "BAD");
        LadderOfBows x = new LadderOfBows();
        for (int street : new int[] {-1, 4, 5, 32, 35, 256, 65536, MIN, MAX}) {
            due("silent(" + street + ")", x.silent(street), BAD);
            due("count(5)", x.count(5), 0);
        }
        for (int street = 0; street <= 3; street++) {
            due("silent(" + street + ")", x.silent(street), street + 1);
        }
    }

    private static void silentAtMost6() {
        about(28, "SILENT (6 at most)");
        LadderOfBows x = town("p0,0;p0,0;");
        for (int k = 1; k <= 6; k++) {
            due("silent(3)", x.silent(3), k);
        }
        due("silent(0) behind 6", x.silent(0), FULL);
        due("silent(3) behind 6", x.silent(3), FULL);
        due("silent(4) behind 6: BAD is ahead of FULL", x.silent(4), BAD);
        due("silent(-1) behind 6: BAD is ahead of FULL", x.silent(-1), BAD);
        due("count(5)", x.count(5), 6);
        due("undo(): it is no ACT", x.undo(), NO);
        about(28, "FULL; nothing changes then");
        due("fits(0): STREET 0 is not told", town3Silent().fits(0), 6);
        refused(EdgeCourtTests::town3Silent, "silent(0)", y -> y.silent(0), FULL);
    }

    private static LadderOfBows town3Silent() {
        LadderOfBows x = town(persons(0, 3));
        for (int k = 0; k < 6; k++) {
            x.silent(3);
        }
        return x;
    }

    private static void forgetHowManyWere() {
        about(29, "Nothing is SILENT: how many were");
        LadderOfBows x = town(persons(0, 3));
        due("forget() of none", x.forget(), 0);
        x.silent(0);
        due("fits(0)", x.fits(0), 0);
        due("forget()", x.forget(), 1);
        due("fits(0)", x.fits(0), 6);
        due("forget() again", x.forget(), 0);
        for (int k = 0; k < 6; k++) {
            x.silent(k % 4);
        }
        due("forget() of 6", x.forget(), 6);
        due("count(5)", x.count(5), 0);
        for (int k = 1; k <= 6; k++) {
            due("silent(1)", x.silent(1), k);
        }
        due("fits(0): STREET 0 is not told any more", x.fits(0), 6);
    }

    private static void fitsToldOrNone() {
        about(30, "BAD");
        LadderOfBows alone = town("p0,0;");
        for (int what : new int[] {-1, 2, 3, 256, 65536, MIN, MAX}) {
            due("fits(" + what + ")", new LadderOfBows().fits(what), BAD);
            due("fits(" + what + "): BAD is ahead of NONE", alone.fits(what), BAD);
        }
        about(30, "the first (1; NONE)");
        due("fits(0) of one alone", alone.fits(0), 0);
        due("fits(1) of one alone", alone.fits(1), NONE);
    }

    private static void fitsNothingSilent() {
        about(30, "how many");
        for (int persons = 2; persons <= 7; persons++) {
            LadderOfBows x = town(persons(0, persons));
            due("fits(0) of " + persons, x.fits(0), persons * (persons - 1));
            due("fits(1) of " + persons, x.fits(1), 1);
        }
        LadderOfBows full = town(persons(0, 7));
        fill(full, 40);
        due("fits(0), 40 ACTS being told", full.fits(0), 42);
    }

    private static void fitsFirstAndLast() {
        about(30, "the first, as 8 times i and j");
        LadderOfBows x = town("p0,0;p0,0;p0,0;p0,0;p0,0;p0,1;p0,1;");
        x.silent(1);
        due("fits(0): 5 and 6 alone", x.fits(0), 2);
        due("fits(1)", x.fits(1), 46);
        x.silent(0);
        due("fits(0): others speak, too", x.fits(0), 0);
        due("fits(1)", x.fits(1), NONE);
        LadderOfBows last = town(persons(0, 7) + "o5,6,9;");
        for (int i = 0; i < 5; i++) {
            last.die(i);
        }
        due("fits(0)", last.fits(0), 1);
        due("fits(1)", last.fits(1), 53);
    }

    private static void fitsAliveAndUnlike() {
        about(30, "all (i, j) alive, unlike");
        LadderOfBows x = town(persons(0, 4));
        for (int i = 0; i < 4; i++) {
            int alive = 3 - i;
            x.die(i);
            due("fits(0) of " + alive, x.fits(0), alive * (alive - 1));
            due("fits(1) of " + alive, x.fits(1), alive > 1 ? 9 * (i + 1) + 1 : NONE);
        }
        LadderOfBows street = town("p0,0;p0,0;p0,0;");
        street.silent(0);
        due("fits(0): three twos speak", street.fits(0), 0);
        street.die(1);
        due("fits(0): the dead do not speak", street.fits(0), 2);
        due("fits(1)", street.fits(1), 2);
    }

    private static void fitsWhere9AreOwed() {
        about(30, "by one WRONG more, were it done now");
        LadderOfBows x = town("p0,0;p0,0;o0,1,8;");
        due("fits(0), 8 being owed", x.fits(0), 2);
        due("fits(1), 8 being owed", x.fits(1), 1);
        x.wrong(0, 1);
        due("fits(0), 9 being owed", x.fits(0), 1);
        due("fits(1), 9 being owed", x.fits(1), 8);
        LadderOfBows all = town(persons(1, 7));
        for (int week = 0; week < 9; week++) {
            due("fits(0) in week " + week, all.fits(0), 42);
            all.days(7);
        }
        due("fits(0), all owing 9", all.fits(0), 0);
        due("fits(1), all owing 9", all.fits(1), NONE);
    }

    private static void fitsInEachStreet() {
        about(30, "in each STREET told no two who live there and are alive MAY SPEAK");
        LadderOfBows x = town("p0,0;p0,0;p0,3;p0,3;p0,2;");
        x.silent(1);
        due("fits(0): nobody lives in STREET 1", x.fits(0), 20);
        x.silent(2);
        due("fits(0): one alone lives in STREET 2", x.fits(0), 20);
        x.silent(3);
        due("fits(0): 2 and 3", x.fits(0), 2);
        due("fits(1): 2 and 3", x.fits(1), 19);
        x.silent(3);
        due("fits(0), twice told", x.fits(0), 2);
        x.silent(0);
        due("fits(0): one WRONG is not enough", x.fits(0), 0);
        x.wrong(3, 2);
        due("fits(0): 0 and 1", x.fits(0), 2);
        due("fits(1): 0 and 1", x.fits(1), 1);
        x.wrong(1, 0);
        due("fits(0): nobody speaks there", x.fits(0), 20);
    }

    private static void yearToldOrNone() {
        LadderOfBows x = new LadderOfBows();
        about(31, "z (0 to 9999)");
        for (int z : new int[] {-1, 10000, 10001, 65536, MIN, MAX}) {
            due("year(" + z + ", 1, 0)", x.year(z, 1, 0), BAD);
            due("year(" + z + ", 60, 1)", x.year(z, 60, 1), BAD);
        }
        about(31, "n (1 to 60)");
        for (int n : new int[] {-1, 0, 61, 62, 256, 65536, MIN, MAX}) {
            due("year(0, " + n + ", 0)", x.year(0, n, 0), BAD);
            due("year(9999, " + n + ", 1)", x.year(9999, n, 1), BAD);
        }
        about(31, "BAD");
        for (int what : new int[] {-1, 2, 3, 256, 65536, MIN, MAX}) {
            due("year(0, 1, " + what + ")", x.year(0, 1, what), BAD);
            due("year(9999, 60, " + what + ")", x.year(9999, 60, what), BAD);
        }
    }

    private static void dueYear(LadderOfBows x, int z, int n, int owed, int bows) {
        due("year(" + z + ", " + n + ", 0)", x.year(z, n, 0), owed);
        due("year(" + z + ", " + n + ", 1)", x.year(z, n, 1), bows);
    }

    /** What is due here was worked out by a program of its own, in another language, from the document's words. */
    private static void yearOfFirstAndLastZ() {
        about(31, "z (0 to 9999)");
        LadderOfBows first = new LadderOfBows();
        dueYear(first, 0, 60, 24, 2);
        dueYear(first, 1, 60, 27, 0);
        dueYear(first, 9998, 60, 21, 2);
        dueYear(first, 9999, 60, 27, 4);
        LadderOfBows priests = town(persons(1, 7));
        dueYear(priests, 0, 60, 40, 13);
        dueYear(priests, 1, 60, 84, 13);
        dueYear(priests, 9998, 60, 73, 18);
        dueYear(priests, 9999, 60, 87, 10);
    }

    private static void yearOfOneStepAndOf60() {
        about(31, "n (1 to 60)");
        LadderOfBows first = new LadderOfBows();
        // z 0, k 0: DRAW 1: 1 WRONGS 0; z 9999, k 0: DRAW 51303: a DAY
        dueYear(first, 0, 1, 9, 0);
        dueYear(first, 9999, 1, 8, 0);
        LadderOfBows seven = town(persons(0, 7));
        // z 9999, k 59: DRAW 10514: 0 WRONGS 5
        dueYear(seven, 9999, 59, 12, 0);
        dueYear(seven, 9999, 60, 13, 0);
        LadderOfBows priests = town(persons(1, 7));
        // z 9998, k 59: DRAW 44676: 2 BOWS to 5
        dueYear(priests, 9998, 59, 74, 17);
        dueYear(priests, 9998, 60, 73, 18);
        dueYear(town("p0,0;"), 9999, 60, 0, 0);
    }

    private static void yearFromNowOn() {
        about(31, "from now on");
        LadderOfBows priests = town("p1,0;p0,0;");
        // z 9999: its first three steps are DAYS
        priests.days(4);
        dueYear(priests, 9999, 2, 0, 0);
        dueYear(priests, 9999, 3, 1, 0);
        dueYear(priests, 9999, 3, 1, 0);
        due("count(2): nothing changes", priests.count(2), 4);
        due("count(4): nothing changes", priests.count(4), 1);
        fill(priests, 39);
        due("year(9999, 60, 0), 40 ACTS being told", Math.min(priests.year(9999, 60, 0), 1), 1);
    }

    private static void yearAlikeAndDead() {
        about(31, "each, if it can be (alike, dead: it can not)");
        LadderOfBows seven = town(persons(0, 7) + "o4,1,8;");
        // z 1, k 0: DRAW 22803: of seven 4 WRONGS 1
        dueYear(seven, 1, 1, 9, 0);
        seven.wrong(4, 1);
        dueYear(seven, 1, 1, 9, 0);
        seven.die(4);
        dueYear(seven, 1, 1, 0, 0);
        seven.undo();
        seven.die(1);
        dueYear(seven, 1, 1, 0, 0);
        // of three the same DRAW is 0 to 0
        dueYear(town(persons(0, 3)), 1, 1, 0, 0);
        LadderOfBows dead = town(persons(1, 7));
        for (int i = 0; i < 7; i++) {
            dead.die(i);
        }
        dueYear(dead, 9999, 60, 0, 0);
    }
}
