/** Promises 16 to 24: each sentence of a boundary in PEACE, in rings, in what is forgiven or begun, and in talk. */
public final class EdgePeaceTests extends Checks {
    private static final String RING_OF_SEVEN =
            persons(0, 7) + "o0,1,1;o1,2,1;o2,3,1;o3,4,1;o4,5,1;o5,6,1;o6,0,1;";

    public static void main(String[] args) {
        peaceToldOrNone();
        peaceOfNothing();
        peaceOfMost();
        atOnceIsOne();
        peaceOnThisDay();
        stuckOweOrAreOwed();
        ringToldOrNone();
        ringOfFewest();
        ringOfNobody();
        lowestSecondOne();
        forgivenToldOrNone();
        forgivenOfSeveralTheFirst();
        forgivenOfSomething();
        mustNotToldOrNone();
        mustNotOfTheDead();
        mustNotWhere9AreOwed();
        mustNotMoreThanNow();
        beganOfNone();
        beganFirstAndLast();
        beganDoneAgainAsFarAsCanBe();
        wordToldOrNone();
        wordSteps();
        wordOfTheDead();
        voteOfNobodyAndAll();
        voteTheLowest();
        dealsOfEachNumber();
        guestsToldOrNone();
        guestsOfTheDead();
        guestsOfNobodyAndAll();
        end();
    }

    private static void duePeace(LadderOfBows x, int bows, int owed, int stuck) {
        due("peace(0)", x.peace(0), bows);
        due("peace(1)", x.peace(1), owed);
        due("peace(2)", x.peace(2), stuck);
    }

    /** Seven PRIESTS, each of whom owes everybody else 9. */
    private static LadderOfBows allOwe9() {
        LadderOfBows x = town(persons(1, 7));
        for (int week = 0; week < 10; week++) {
            x.days(7);
        }
        return x;
    }

    private static void peaceToldOrNone() {
        about(16, "BAD");
        LadderOfBows x = new LadderOfBows();
        for (int what : new int[] {-1, 3, 4, 256, 65536, MIN, MAX, MIN + 1}) {
            due("peace(" + what + ")", x.peace(what), BAD);
        }
        duePeace(x, 5, 0, 0);
    }

    private static void peaceOfNothing() {
        about(16, "till nothing can be");
        duePeace(town("p0,0;"), 0, 0, 0);
        duePeace(town(persons(0, 7)), 0, 0, 0);
        LadderOfBows dead = town("p0,0;p0,0;o0,1,9;o1,0,9;");
        dead.die(0);
        dead.die(1);
        duePeace(dead, 0, 0, 0);
    }

    private static void peaceOfMost() {
        about(16, "again and again");
        duePeace(allOwe9(), 378, 0, 0);
        String chain = "o0,1,9;o1,2,9;o2,3,9;o3,4,9;o4,5,9;o5,6,9;";
        duePeace(town(persons(0, 7) + chain), 54, 0, 0);
        duePeace(town(persons(2, 7) + chain), 6, 0, 0);
        duePeace(town(persons(3, 7) + chain), 54, 0, 0);
        duePeace(town(persons(0, 7) + chain + "o6,0,9;"), 0, 63, 127);
        duePeace(town(persons(0, 6) + "p1,0;" + chain + "o6,0,9;"), 63, 0, 0);
    }

    private static void atOnceIsOne() {
        about(16, "AT ONCE is one");
        duePeace(town("p0,0;p0,0;o0,1,1;o1,0,1;"), 1, 0, 0);
        duePeace(town("p0,0;p0,0;o0,1,9;o1,0,9;"), 9, 0, 0);
        duePeace(town("p0,0;p0,0;o0,1,9;o1,0,1;"), 1 + 8, 0, 0);
        duePeace(town("p2,0;p0,0;o0,1,9;o1,0,9;"), 1 + 8, 0, 0);
        duePeace(town("p2,0;p2,0;o0,1,9;o1,0,9;"), 1, 0, 0);
        duePeace(town("p1,0;p0,0;o0,1,9;o1,0,9;"), 9 + 9, 0, 0);
        duePeace(town("p0,0;p0,0;p0,0;o0,1,1;o1,0,1;o0,2,1;"), 1 + 1, 0, 0);
        duePeace(town("p0,0;p0,0;p0,0;o0,1,1;o1,0,1;o0,2,1;o2,0,1;"), 0, 4, 7);
    }

    private static void peaceOnThisDay() {
        about(16, "on this day, of all BOWS by which something is paid");
        LadderOfBows drunk = town("p3,0;p0,0;o0,1,9;o1,0,9;");
        duePeace(drunk, 9, 0, 0);
        drunk.days(1);
        duePeace(drunk, 9, 9, 3);
        drunk.days(1);
        duePeace(drunk, 9, 0, 0);
        LadderOfBows drunks = town("p3,0;p3,0;o0,1,9;o1,0,9;");
        drunks.days(1);
        duePeace(drunks, 0, 18, 3);
        LadderOfBows sober = town("p3,0;p0,0;p0,0;p0,0;o0,1,1;o1,0,1;o2,3,1;o3,2,1;");
        sober.days(1);
        about(16, "something being paid");
        duePeace(sober, 2, 1, 3);
        LadderOfBows idle = town("p3,0;p3,0;p0,0;p0,0;o0,1,1;o1,0,1;o2,3,2;o3,2,2;");
        idle.days(1);
        duePeace(idle, 2, 2, 3);
    }

    private static void stuckOweOrAreOwed() {
        about(16, "who owe or are owed something then");
        LadderOfBows x = town("p0,0;p3,0;p0,0;o1,2,1;");
        duePeace(x, 1, 0, 0);
        x.days(1);
        duePeace(x, 0, 1, 6);
        duePeace(town(persons(0, 4) + "o0,1,1;o1,2,1;o2,0,1;o3,0,1;"), 0, 4, 15);
        duePeace(town(persons(0, 4) + "o0,1,1;o1,2,1;o2,0,1;o0,3,1;"), 1, 3, 7);
        duePeace(town(persons(0, 7) + "o4,5,9;o5,6,9;o6,4,9;"), 0, 27, 112);
    }

    private static void ringToldOrNone() {
        about(17, "BAD");
        LadderOfBows x = town("p0,0;p0,0;p0,0;o0,1,1;o1,0,1;");
        for (int i : new int[] {-1, 3, 7, 8, 256, 65536, MIN, MAX}) {
            due("ring(" + i + ", 0)", x.ring(i, 0), BAD);
            due("ring(" + i + ", 1)", x.ring(i, 1), BAD);
        }
        for (int what : new int[] {-1, 2, 3, 256, 65536, MIN, MAX}) {
            due("ring(0, " + what + ")", x.ring(0, what), BAD);
            due("ring(2, " + what + "): BAD is ahead of NONE", x.ring(2, what), BAD);
        }
        due("ring(0, 0)", x.ring(0, 0), 2);
        due("ring(2, 0)", x.ring(2, 0), NONE);
        due("ring(2, 1)", x.ring(2, 1), NONE);
    }

    private static void ringOfFewest() {
        about(17, "the fewest PERSONS");
        LadderOfBows seven = town(RING_OF_SEVEN);
        for (int i = 0; i < 7; i++) {
            due("ring(" + i + ", 0)", seven.ring(i, 0), 7);
            due("ring(" + i + ", 1)", seven.ring(i, 1), (i + 1) % 7);
        }
        seven.wrong(0, 6);
        due("ring(0, 0): a shorter one by a higher second one", seven.ring(0, 0), 2);
        due("ring(0, 1)", seven.ring(0, 1), 6);
        due("ring(6, 1)", seven.ring(6, 1), 0);
        due("ring(1, 0)", seven.ring(1, 0), 7);
        seven.undo();
        seven.wrong(3, 0);
        due("ring(0, 0)", seven.ring(0, 0), 4);
        due("ring(3, 1)", seven.ring(3, 1), 0);
        due("ring(4, 0)", seven.ring(4, 0), 7);
        LadderOfBows three = town(persons(0, 4) + "o0,1,1;o1,2,1;o2,0,1;o0,3,1;o3,0,1;");
        due("ring(0, 0): shorter by one", three.ring(0, 0), 2);
        due("ring(0, 1): shorter by one", three.ring(0, 1), 3);
    }

    private static void ringOfNobody() {
        about(17, "NONE");
        LadderOfBows alone = town("p0,0;");
        due("ring(0, 0) of one alone", alone.ring(0, 0), NONE);
        due("ring(0, 1) of one alone", alone.ring(0, 1), NONE);
        LadderOfBows x = town("p0,0;p0,0;p0,0;o0,1,9;o1,2,9;o2,1,9;");
        due("ring(0, 0) of one who waits for a ring", x.ring(0, 0), NONE);
        due("ring(1, 0)", x.ring(1, 0), 2);
        x.die(2);
        due("ring(1, 0), the other one dead", x.ring(1, 0), NONE);
        due("ring(2, 0) of a dead one", x.ring(2, 0), NONE);
        due("ring(2, 1) of a dead one", x.ring(2, 1), NONE);
        due("ring(2, 2) of a dead one", x.ring(2, 2), BAD);
    }

    private static void lowestSecondOne() {
        about(17, "the lowest who can be the second one");
        LadderOfBows x = town(persons(0, 7) + "o3,6,1;o6,3,1;o3,1,1;o1,3,9;o3,2,1;o0,3,1;");
        due("ring(3, 0)", x.ring(3, 0), 2);
        due("ring(3, 1): 0 is owed nothing, 1 is the lowest", x.ring(3, 1), 1);
        due("ring(6, 1)", x.ring(6, 1), 3);
        due("ring(2, 0)", x.ring(2, 0), NONE);
    }

    private static void forgivenToldOrNone() {
        about(18, "BAD");
        LadderOfBows none = town("p0,0;p0,0;");
        for (int what : new int[] {-1, 2, 3, 256, 65536, MIN, MAX}) {
            due("forgiven(" + what + ")", new LadderOfBows().forgiven(what), BAD);
            due("forgiven(" + what + "): BAD is ahead of NONE", none.forgiven(what), BAD);
        }
        about(18, "none (nobody owes anything)");
        due("forgiven(0)", none.forgiven(0), NONE);
        due("forgiven(1)", none.forgiven(1), NONE);
        none.wrong(1, 0);
        due("forgiven(0)", none.forgiven(0), 8);
        due("forgiven(1)", none.forgiven(1), 0);
        none.die(0);
        due("forgiven(0), the only debt being a dead one's", none.forgiven(0), NONE);
        due("forgiven(1), the only debt being a dead one's", none.forgiven(1), NONE);
    }

    private static void forgivenOfSeveralTheFirst() {
        about(18, "of several the first (by who owes, then to whom)");
        LadderOfBows x = town(RING_OF_SEVEN);
        due("forgiven(0)", x.forgiven(0), 1);
        due("forgiven(1)", x.forgiven(1), 0);
        LadderOfBows last = town(persons(0, 7) + "o6,5,1;");
        due("forgiven(0): the last two there are", last.forgiven(0), 53);
        LadderOfBows later = town(persons(0, 7) + "o6,5,1;o6,4,1;o5,6,9;");
        due("forgiven(0)", later.forgiven(0), 46);
        LadderOfBows most = allOwe9();
        due("forgiven(0) of 42 debts", most.forgiven(0), 1);
        due("forgiven(1) of 42 debts", most.forgiven(1), 0);
        LadderOfBows two = town(persons(0, 6) + "o0,1,9;o1,2,9;o2,0,9;o3,4,9;o4,5,9;o5,3,9;");
        due("forgiven(0) of two rings alike", two.forgiven(0), 1);
        due("forgiven(1) of two rings alike", two.forgiven(1), 27);
        two.wrong(0, 3);
        due("forgiven(0): the first ring waits for the second one", two.forgiven(0), 28);
        due("forgiven(1)", two.forgiven(1), 27);
    }

    private static void forgivenOfSomething() {
        about(18, "of what one PERSON owes another one (something)");
        LadderOfBows x = town("p0,0;p0,0;p0,0;o0,1,0;o1,2,0;o2,1,1;");
        due("forgiven(0)", x.forgiven(0), 17);
        due("forgiven(1)", x.forgiven(1), 0);
        x.bow(2, 1);
        due("forgiven(0)", x.forgiven(0), NONE);
    }

    private static void mustNotToldOrNone() {
        about(19, "BAD");
        LadderOfBows x = town(persons(0, 2));
        for (int i : new int[] {-1, 2, 7, 8, 256, 65536, MIN, MAX}) {
            due("mustNot(" + i + ")", x.mustNot(i), BAD);
        }
        due("mustNot(1)", x.mustNot(1), 0);
        due("mustNot(0) of one alone", town("p0,0;").mustNot(0), 0);
        due("mustNot(6)", town(RING_OF_SEVEN).mustNot(6), 63);
        due("mustNot(7)", town(RING_OF_SEVEN).mustNot(7), BAD);
    }

    private static void mustNotOfTheDead() {
        about(19, "NO: he is dead");
        LadderOfBows x = town(persons(0, 7) + "o0,1,1;o1,2,1;o2,0,1;");
        x.die(5);
        due("mustNot(5)", x.mustNot(5), NO);
        about(19, "dead ones: not among them");
        // in the ring nobody TAKES; 3, 4 and 6 do
        due("mustNot(0)", x.mustNot(0), 2 + 4);
        x.die(1);
        due("mustNot(0): the ring is gone", x.mustNot(0), 0);
        due("mustNot(1)", x.mustNot(1), NO);
        x.undo();
        due("mustNot(1)", x.mustNot(1), 1 + 4);
    }

    private static void mustNotWhere9AreOwed() {
        about(19, "9 owed already: not among them");
        LadderOfBows x = town("p0,0;p0,0;p0,0;o0,1,8;o1,2,1;o2,0,9;");
        due("mustNot(0), 8 being owed", x.mustNot(0), 2 + 4);
        due("mustNot(2), 9 being owed", x.mustNot(2), 2);
        x.wrong(0, 1);
        due("mustNot(0), 9 being owed", x.mustNot(0), 4);
        x.undo();
        due("mustNot(0), 8 being owed again", x.mustNot(0), 2 + 4);
        due("mustNot(0) where all owe 9", allOwe9().mustNot(0), 0);
    }

    private static void mustNotMoreThanNow() {
        about(19, "more would be owed behind PEACE than now behind PEACE");
        LadderOfBows seven = town(RING_OF_SEVEN);
        for (int i = 0; i < 7; i++) {
            due("mustNot(" + i + ")", seven.mustNot(i), 127 & ~(1 << i));
        }
        LadderOfBows open = town(persons(0, 3) + "o0,1,1;o1,2,1;");
        due("mustNot(2): whom he wrongs would close a ring", open.mustNot(2), 1);
        due("mustNot(0)", open.mustNot(0), 0);
        fill(open, 40);
        due("mustNot(2), 40 ACTS being told", open.mustNot(2), 1);
        LadderOfBows drunk = town("p3,0;p0,0;o0,1,1;");
        drunk.days(1);
        due("mustNot(0): a DRUNK one does not pay", drunk.mustNot(0), 2);
    }

    private static void beganOfNone() {
        about(20, "NONE");
        due("began(), no ACTS", town(RING_OF_SEVEN).began(), NONE);
        LadderOfBows x = town(RING_OF_SEVEN);
        fill(x, 40);
        due("began(), 40 ACTS that do not matter", x.began(), NONE);
        LadderOfBows dead = town("p0,0;");
        dead.die(0);
        due("began(), nothing being owed", dead.began(), NONE);
        LadderOfBows helped = town("p0,0;p0,0;p0,0;o0,1,9;o1,2,9;o2,0,9;o0,2,1;");
        helped.die(2);
        due("began(): without the death more is owed", helped.began(), NONE);
    }

    private static void beganFirstAndLast() {
        about(20, "the first ACT without which less would be owed");
        String open = persons(0, 3) + "o0,1,1;o1,2,1;";
        LadderOfBows last = town(open);
        fill(last, 39);
        last.wrong(2, 0);
        due("began(): the 40th", last.began(), 39);
        LadderOfBows first = town(open);
        first.wrong(2, 0);
        fill(first, 39);
        due("began(): the first", first.began(), 0);
        LadderOfBows several = town(open);
        several.days(1);
        several.wrong(2, 0);
        several.wrong(0, 2);
        several.wrong(2, 1);
        due("began(): of several the first", several.began(), 1);
        several.undo();
        several.undo();
        several.undo();
        due("began(), they being UNDONE", several.began(), NONE);
        LadderOfBows twice = town(open + "o2,0,1;");
        twice.wrong(2, 0);
        due("began(): 1 less is less", twice.began(), 0);
        LadderOfBows paid = town(persons(0, 5) + "o0,1,1;o1,2,1;o3,4,8;");
        paid.wrong(3, 4);
        paid.days(1);
        paid.wrong(2, 0);
        due("began(): what is paid by PEACE does not count", paid.began(), 2);
    }

    private static void beganDoneAgainAsFarAsCanBe() {
        about(20, "those behind it done again, as far as they can be");
        LadderOfBows refused = town(persons(0, 4) + "o1,2,1;o2,1,1;o3,1,1;");
        refused.wrong(0, 3);
        refused.atOnce(1, 2);
        refused.refuse(3, 1);
        refused.wrong(1, 3);
        // 1 and 3 owe each other: 3 pays AT ONCE; nothing is owed in any case
        due("began()", refused.began(), NONE);
        LadderOfBows nine = town("p0,0;p0,0;p0,0;o0,1,9;");
        nine.bow(0, 1);
        nine.wrong(0, 1);
        nine.wrong(1, 2);
        nine.wrong(2, 0);
        // without the BOW the WRONG behind it can not be: 9 all the same; without the WRONG 8
        due("began()", nine.began(), 1);
        LadderOfBows needed = town("p0,0;p0,0;p0,0;o1,2,1;");
        needed.days(1);
        needed.bow(1, 2);
        needed.wrong(0, 1);
        needed.refuse(0, 1);
        needed.wrong(1, 2);
        needed.wrong(2, 0);
        // without the BOW 1 owes and can not refuse: 0 owes 1, 1 owes 2 twice, 2 owes 0: 4, as now; without 0's WRONG: none
        due("peace(1)", needed.peace(1), 4);
        due("began()", needed.began(), 2);
    }

    /** Who may speak: 0 with 1, 1 with 2, .. 5 with 6, and no others. */
    private static LadderOfBows path() {
        StringBuilder text = new StringBuilder(persons(0, 7));
        for (int i = 0; i < 7; i++) {
            for (int j = i + 2; j < 7; j++) {
                text.append('o').append(i).append(',').append(j).append(",1;");
            }
        }
        return town(text.toString());
    }

    private static void wordToldOrNone() {
        about(21, "BAD");
        LadderOfBows x = town("p0,0;p0,0;o0,1,1;");
        for (int i : new int[] {-1, 2, 7, 8, 256, 65536, MIN, MAX}) {
            due("word(" + i + ", 0)", x.word(i, 0), BAD);
            due("word(0, " + i + ")", x.word(0, i), BAD);
            due("word(" + i + ", " + i + ")", x.word(i, i), BAD);
        }
        x.die(1);
        due("word(1, 2): BAD is ahead of NONE", x.word(1, 2), BAD);
        due("word(2, 1): BAD is ahead of NONE", x.word(2, 1), BAD);
    }

    private static void wordSteps() {
        about(21, "the fewest such steps");
        LadderOfBows x = path();
        for (int i = 0; i < 7; i++) {
            for (int j = 0; j < 7; j++) {
                due("word(" + i + ", " + j + ")", x.word(i, j), Math.abs(i - j));
            }
        }
        about(21, "NONE");
        x.wrong(3, 4);
        due("word(0, 3)", x.word(0, 3), 3);
        due("word(0, 4)", x.word(0, 4), NONE);
        due("word(6, 3)", x.word(6, 3), NONE);
        LadderOfBows all = town(persons(0, 7));
        due("word(0, 6), all speaking", all.word(0, 6), 1);
    }

    private static void wordOfTheDead() {
        about(21, "0: to himself, if he is alive");
        LadderOfBows x = path();
        due("word(3, 3)", x.word(3, 3), 0);
        x.die(3);
        due("word(3, 3)", x.word(3, 3), NONE);
        due("word(3, 2)", x.word(3, 2), NONE);
        due("word(2, 3)", x.word(2, 3), NONE);
        due("word(2, 4): by no dead one", x.word(2, 4), NONE);
        due("word(0, 2)", x.word(0, 2), 2);
        x.die(2);
        due("word(2, 3), both dead", x.word(2, 3), NONE);
    }

    private static void voteOfNobodyAndAll() {
        about(22, "of PERSONS who are alive");
        for (int persons = 1; persons <= 7; persons++) {
            LadderOfBows x = town(persons(0, persons));
            due("vote() of all", x.vote(), (1 << persons) - 1);
            for (int i = 0; i < persons; i++) {
                x.die(i);
                due("vote()", x.vote(), (1 << persons) - (2 << i));
            }
        }
    }

    private static void voteTheLowest() {
        about(22, "that of most, of several the lowest");
        LadderOfBows x = path();
        due("vote()", x.vote(), 3);
        x.wrong(0, 1);
        due("vote()", x.vote(), 6);
        LadderOfBows two = town(persons(0, 4) + "o0,1,1;o0,2,1;o1,3,1;o2,3,1;");
        due("vote(): 1 and 2 (6) are lower than 0 and 3 (9)", two.vote(), 6);
        LadderOfBows nobodySpeaks = town("p0,0;p0,0;p0,0;o0,1,1;o1,2,1;o2,0,1;");
        due("vote()", nobodySpeaks.vote(), 1);
        nobodySpeaks.die(0);
        due("vote()", nobodySpeaks.vote(), 2);
    }

    private static void dealsOfEachNumber() {
        about(23, "nobody in two of them");
        for (int persons = 1; persons <= 7; persons++) {
            LadderOfBows x = town(persons(0, persons));
            due("deals() of " + persons, x.deals(), persons / 2);
            for (int i = persons - 1; i >= 0; i--) {
                x.die(i);
                due("deals() of " + i, x.deals(), i / 2);
            }
        }
        LadderOfBows path = path();
        due("deals()", path.deals(), 3);
        path.die(1);
        due("deals(): 2 to 6", path.deals(), 2);
        due("deals(), nobody speaking", town("p0,0;p0,0;o0,1,1;").deals(), 0);
        LadderOfBows star = town(persons(0, 4) + "o0,1,1;o1,2,1;o2,0,1;");
        due("deals(): 3 with one of all", star.deals(), 1);
    }

    private static void guestsToldOrNone() {
        about(24, "BAD (alike, too)");
        LadderOfBows x = town(persons(0, 3));
        for (int i : new int[] {-1, 3, 7, 8, 256, 65536, MIN, MAX}) {
            due("guests(" + i + ", 0)", x.guests(i, 0), BAD);
            due("guests(0, " + i + ")", x.guests(0, i), BAD);
            due("guests(" + i + ", " + i + ")", x.guests(i, i), BAD);
        }
        for (int i = 0; i < 3; i++) {
            due("guests(" + i + ", " + i + ")", x.guests(i, i), BAD);
        }
    }

    private static void guestsOfTheDead() {
        about(24, "NO: one is dead");
        LadderOfBows x = town(persons(0, 5));
        x.die(1);
        due("guests(0, 1)", x.guests(0, 1), NO);
        due("guests(1, 0)", x.guests(1, 0), NO);
        due("guests(1, 1): BAD is ahead of NO", x.guests(1, 1), BAD);
        due("guests(1, 5): BAD is ahead of NO", x.guests(1, 5), BAD);
        due("guests(0, 2): alive", x.guests(0, 2), 8 + 16);
        x.die(2);
        due("guests(1, 2), both dead", x.guests(1, 2), NO);
    }

    private static void guestsOfNobodyAndAll() {
        about(24, "those alive who MAY SPEAK with both");
        due("guests(0, 1) of two", town(persons(0, 2)).guests(0, 1), 0);
        LadderOfBows all = town(persons(0, 7));
        due("guests(0, 1)", all.guests(0, 1), 124);
        due("guests(6, 5)", all.guests(6, 5), 31);
        LadderOfBows path = path();
        due("guests(0, 2)", path.guests(0, 2), 2);
        due("guests(0, 1)", path.guests(0, 1), 0);
        due("guests(4, 6)", path.guests(4, 6), 32);
        due("guests(0, 6)", path.guests(0, 6), 0);
        LadderOfBows wronged = town("p0,0;p0,0;p0,0;o0,1,9;");
        due("guests(0, 1), who do not speak themselves", wronged.guests(0, 1), 4);
    }
}
