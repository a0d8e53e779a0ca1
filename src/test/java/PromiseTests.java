/** For each promise of the document, answers worked out by hand: ordinary calls, edges, wrong numbers. */
public final class PromiseTests extends Checks {
    public static void main(String[] args) {
        newObject();
        write();
        wipe();
        fault();
        lay();
        person();
        owesAndSpeak();
        wrongs();
        bows();
        refusals();
        atOnce();
        deaths();
        days();
        undo();
        peace();
        ring();
        forgiven();
        mustNot();
        began();
        word();
        vote();
        deals();
        guests();
        court();
        stranger();
        easter();
        silentAndForget();
        fits();
        fitsWhereNineAreOwed();
        year();
        keepAndBack();
        count();
        end();
    }

    private static void newObject() {
        about(1);
        LadderOfBows x = new LadderOfBows();
        int[] counts = {5, 5, 0, 8, 0, 0, 0, 0};
        for (int what = 0; what < counts.length; what++) {
            due("count(" + what + ")", x.count(what), counts[what]);
        }
        int[] kinds = {0, 0, 1, 2, 3};
        int[] streets = {0, 1, 0, 1, 0};
        int[] debts = {0, 1, 0, 0, 0, 0, 0, 2, 0, 0, 1, 0, 0, 0, 0, 0, 0, 0, 0, 3, 0, 0, 0, 1, 0};
        for (int i = 0; i < 5; i++) {
            due("person(" + i + ", 0)", x.person(i, 0), kinds[i]);
            due("person(" + i + ", 1)", x.person(i, 1), streets[i]);
            due("person(" + i + ", 2)", x.person(i, 2), 1);
            for (int j = 0; j < 5; j++) {
                if (i != j) {
                    due("owes(" + i + ", " + j + ")", x.owes(i, j), debts[5 * i + j]);
                }
            }
        }
        due("fault()", x.fault(), NONE);
        due("back()", x.back(), NO);
    }

    private static void write() {
        about(2);
        LadderOfBows x = new LadderOfBows();
        due("write(31)", x.write(31), BAD);
        due("write(127)", x.write(127), BAD);
        due("write(min)", x.write(Integer.MIN_VALUE), BAD);
        due("write(max)", x.write(Integer.MAX_VALUE), BAD);
        due("write('p' + 65536)", x.write('p' + 65536), BAD);
        due("write(32)", x.write(32), 1);
        due("write(126)", x.write(126), 2);
        for (int k = 3; k <= 200; k++) {
            due("write(48)", x.write(48), k);
        }
        due("write(48) at 200", x.write(48), FULL);
        due("write(31) at 200", x.write(31), BAD);
        due("count(7)", x.count(7), 200);
    }

    private static void wipe() {
        about(3);
        LadderOfBows x = new LadderOfBows();
        due("wipe()", x.wipe(), 0);
        x.write('e');
        x.write('9');
        due("wipe()", x.wipe(), 2);
        due("wipe()", x.wipe(), 0);
        due("count(7)", x.count(7), 0);
        due("count(0)", x.count(0), 5);
        due("write(';')", x.write(';'), 1);
        due("fault()", x.fault(), 0);
    }

    private static void fault() {
        about(4);
        String[] fine = {
            "", "e1;", "e60;", "e01;e60;", "p0,0;", "p3,3;", "p00,03;", "p0,0;p0,0;o0,1,9;", "p0,0;p0,0;o1,00,09;",
            "p0,0;p1,1;o0,1,0;o0,1,3;e7;p2,2;o2,0,1;", "p0,0;p0,0;p0,0;p0,0;p0,0;p0,0;p0,0;o6,5,1;"};
        for (String text : fine) {
            dueFault(text, NONE);
        }
        String[] faultyFirst = {
            "p", "p0", "p0,", "p0,0", ";", "p;", "p0;", "p0,0,0;", "p,0;", "p0,;", "p4,0;", "p0,4;", "p000,0;", "p0,000;",
            "p0.0;", "p0;0;", "p0,0,", "p-1,0;", "P0,0;", " p0,0;", "x0,0;", "e;", "e0;", "e61;", "e100;", "e1,2;", "e",
            "o0,1,1;", "p 0,0;", "p0,0 ;", "7", "p10,0;", "e00;"};
        for (String text : faultyFirst) {
            dueFault(text, 0);
        }
        dueFault("p0,0;p0,0", 5);
        dueFault("p0,0; ", 5);
        dueFault("p0,0;;", 5);
        dueFault("p0,0;o0,0,1;", 5);
        dueFault("p0,0;o0,1,1;p0,0;", 5);
        dueFault("p0,0;p0,0;o0,2,1;", 10);
        dueFault("p0,0;p0,0;o2,0,1;", 10);
        dueFault("p0,0;p0,0;o0,1,10;", 10);
        dueFault("p0,0;p0,0;o0,1;", 10);
        dueFault("p0,0;p0,0;o0,1,1,1;", 10);
        dueFault("p0,0;p0,0;o0,1,1;o1,1,1;x", 17);
        dueFault("p0,0;p0,0;p0,0;p0,0;p0,0;p0,0;p0,0;p0,0;", 35);
        dueFault("p0,0;e5;e61;p9,9;", 8);
    }

    private static void dueFault(String text, int want) {
        LadderOfBows x = new LadderOfBows();
        put(x, text);
        due("fault() of " + text, x.fault(), want);
        due("lay() of " + text, x.lay() > 0 ? 1 : 0, want == NONE && text.indexOf('p') >= 0 ? 1 : 0);
    }

    private static void lay() {
        about(5);
        LadderOfBows x = new LadderOfBows();
        x.wrong(0, 3);
        x.days(8);
        x.silent(1);
        x.keep();
        due("lay() of nothing", x.lay(), NO);
        put(x, "e5;");
        due("lay() without PERSONS", x.lay(), NO);
        put(x, "p0,0;p0,0;o0,1,10;");
        due("lay() with a FAULT", x.lay(), NO);
        int[] kept = {5, 5, 8, 8 + 1 + 4, 2, 1, 1, 18};
        for (int what = 0; what < kept.length; what++) {
            due("count(" + what + ") behind NO", x.count(what), kept[what]);
        }
        put(x, "p1,3;p2,2;o0,1,4;o0,1,5;o1,0,2;o1,0,0;");
        due("lay()", x.lay(), 2);
        int[] laid = {2, 2, 0, 5, 0, 0, 0, 38};
        for (int what = 0; what < laid.length; what++) {
            due("count(" + what + ")", x.count(what), laid[what]);
        }
        due("owes(0, 1)", x.owes(0, 1), 5);
        due("owes(1, 0)", x.owes(1, 0), 0);
        due("undo()", x.undo(), NO);
        due("back()", x.back(), NO);
        x.wipe();
        due("lay() of nothing", x.lay(), NO);
        due("count(0)", x.count(0), 2);
        x.days(1);
        x.undo();
        due("owes(0, 1) behind undo", x.owes(0, 1), 5);
        LadderOfBows seven = town("p0,0;p0,0;p0,0;p0,0;p0,0;p0,0;p0,0;");
        due("count(0)", seven.count(0), 7);
        due("lay() again", seven.lay(), 7);
    }

    private static void person() {
        about(6);
        LadderOfBows x = town("p0,1;p1,2;p2,3;p3,0;o0,1,2;o0,2,3;o1,0,4;o2,3,1;");
        int[][] want = {{0, 1, 1, 5, 4, 0}, {1, 2, 1, 4, 2, 1}, {2, 3, 1, 1, 3, 0}, {3, 0, 1, 0, 1, 1}};
        for (int i = 0; i < 4; i++) {
            for (int what = 0; what < 6; what++) {
                due("person(" + i + ", " + what + ")", x.person(i, what), want[i][what]);
            }
        }
        x.die(1);
        int[] dead = {1, 2, 0, 0, 0, 0};
        for (int what = 0; what < 6; what++) {
            due("person(1, " + what + ") dead", x.person(1, what), dead[what]);
        }
        due("person(0, 4)", x.person(0, 4), 0);
        due("person(0, 3)", x.person(0, 3), 3);
        due("person(-1, 0)", x.person(-1, 0), BAD);
        due("person(4, 0)", x.person(4, 0), BAD);
        due("person(0, -1)", x.person(0, -1), BAD);
        due("person(0, 6)", x.person(0, 6), BAD);
        due("person(max, max)", x.person(Integer.MAX_VALUE, Integer.MAX_VALUE), BAD);
    }

    private static void owesAndSpeak() {
        LadderOfBows x = town("p0,0;p0,0;p0,0;o0,1,9;o2,1,1;");
        about(7);
        due("owes(0, 1)", x.owes(0, 1), 9);
        due("owes(1, 0)", x.owes(1, 0), 0);
        due("owes(2, 1)", x.owes(2, 1), 1);
        due("owes(1, 1)", x.owes(1, 1), BAD);
        due("owes(-1, 1)", x.owes(-1, 1), BAD);
        due("owes(1, 3)", x.owes(1, 3), BAD);
        due("owes(min, max)", x.owes(Integer.MIN_VALUE, Integer.MAX_VALUE), BAD);
        about(8);
        due("speak(0, 1)", x.speak(0, 1), 0);
        due("speak(1, 0)", x.speak(1, 0), 0);
        due("speak(0, 2)", x.speak(0, 2), 1);
        due("speak(2, 0)", x.speak(2, 0), 1);
        due("speak(2, 2)", x.speak(2, 2), BAD);
        due("speak(3, 0)", x.speak(3, 0), BAD);
        due("speak(0, -1)", x.speak(0, -1), BAD);
        x.die(2);
        due("speak(0, 2) dead", x.speak(0, 2), 0);
        due("owes(2, 1) dead", x.owes(2, 1), 0);
    }

    private static void wrongs() {
        about(9);
        LadderOfBows x = town("p0,0;p0,0;p0,0;o0,1,7;");
        due("wrong(0, 1)", x.wrong(0, 1), 8);
        due("wrong(0, 1)", x.wrong(0, 1), 9);
        due("wrong(0, 1) at 9", x.wrong(0, 1), NO);
        due("wrong(1, 0)", x.wrong(1, 0), 1);
        due("count(4)", x.count(4), 3);
        due("wrong(1, 1)", x.wrong(1, 1), BAD);
        due("wrong(3, 1)", x.wrong(3, 1), BAD);
        due("wrong(1, -1)", x.wrong(1, -1), BAD);
        x.die(2);
        due("wrong(2, 0)", x.wrong(2, 0), NO);
        due("wrong(0, 2)", x.wrong(0, 2), NO);
        due("wrong(2, 2)", x.wrong(2, 2), BAD);
        fill(x, 36);
        due("count(4)", x.count(4), 40);
        due("wrong(1, 0) FULL", x.wrong(1, 0), FULL);
        due("wrong(0, 1) NO ahead of FULL", x.wrong(0, 1), NO);
        due("wrong(0, 0) BAD ahead of FULL", x.wrong(0, 0), BAD);
        due("owes(1, 0)", x.owes(1, 0), 1);
    }

    private static void bows() {
        about(10);
        LadderOfBows x = town("p0,0;p1,0;p2,0;p3,0;p0,0;o0,1,2;o1,4,1;o2,4,5;o3,4,2;o4,0,1;");
        due("bow(0, 1) to a PRIEST who owes", x.bow(0, 1), 1);
        due("bow(1, 4) to one who owes", x.bow(1, 4), NO);
        due("bow(4, 0) to one who owes", x.bow(4, 0), NO);
        due("bow(0, 1)", x.bow(0, 1), 0);
        due("bow(0, 1) of nothing", x.bow(0, 1), NO);
        due("bow(4, 0)", x.bow(4, 0), 0);
        due("bow(2, 4) of a CHILD", x.bow(2, 4), 0);
        due("bow(3, 4) of a DRUNK one, even", x.bow(3, 4), 1);
        x.days(1);
        due("bow(3, 4) of a DRUNK one, odd", x.bow(3, 4), 1);
        due("count(4)", x.count(4), 7);
        due("bow(1, 4) of a PRIEST", x.bow(1, 4), 0);
        due("bow(4, 4)", x.bow(4, 4), BAD);
        due("bow(5, 4)", x.bow(5, 4), BAD);
        due("bow(0, -1)", x.bow(0, -1), BAD);
        x.die(4);
        due("bow(3, 4) dead", x.bow(3, 4), NO);
        x.wrong(0, 1);
        fill(x, 30);
        due("count(4)", x.count(4), 40);
        due("bow(0, 1) FULL", x.bow(0, 1), FULL);
        due("bow(1, 0) NO ahead of FULL", x.bow(1, 0), NO);
        due("bow(0, 0) BAD ahead of FULL", x.bow(0, 0), BAD);
        due("owes(0, 1)", x.owes(0, 1), 1);
    }

    private static void refusals() {
        about(11);
        LadderOfBows x = town("p0,0;p0,0;p3,0;o0,1,8;o2,1,1;");
        due("refuse(0, 1)", x.refuse(0, 1), 9);
        due("refuse(0, 1) at 9", x.refuse(0, 1), NO);
        due("refuse(1, 0) of nothing", x.refuse(1, 0), NO);
        x.days(1);
        due("refuse(2, 1) of a DRUNK one, odd", x.refuse(2, 1), 2);
        x.wrong(1, 0);
        due("refuse(2, 1) by one who owes", x.refuse(2, 1), NO);
        due("refuse(0, 0)", x.refuse(0, 0), BAD);
        due("refuse(0, 3)", x.refuse(0, 3), BAD);
        x.undo();
        fill(x, 37);
        due("count(4)", x.count(4), 40);
        due("refuse(2, 1) FULL", x.refuse(2, 1), FULL);
        due("refuse(0, 1) NO ahead of FULL", x.refuse(0, 1), NO);
        due("refuse(-1, 1) BAD ahead of FULL", x.refuse(-1, 1), BAD);
        due("owes(2, 1)", x.owes(2, 1), 2);
    }

    private static void atOnce() {
        about(12);
        LadderOfBows x = town("p0,0;p0,0;p3,0;p3,0;p2,0;o0,1,3;o1,0,2;o2,3,2;o3,2,2;o4,0,1;");
        due("atOnce(0, 1)", x.atOnce(0, 1), 3);
        due("owes(0, 1)", x.owes(0, 1), 2);
        due("owes(1, 0)", x.owes(1, 0), 1);
        due("atOnce(1, 0)", x.atOnce(1, 0), 1);
        due("atOnce(0, 1) of one alone", x.atOnce(0, 1), NO);
        due("atOnce(2, 3) even", x.atOnce(2, 3), 2);
        x.days(1);
        due("atOnce(2, 3) odd: nothing is paid", x.atOnce(2, 3), 2);
        due("count(4)", x.count(4), 5);
        x.wrong(2, 1);
        due("atOnce(2, 3), one owing another one too", x.atOnce(2, 3), NO);
        due("atOnce(3, 2), one owing another one too", x.atOnce(3, 2), NO);
        due("atOnce(4, 0)", x.atOnce(4, 0), NO);
        due("atOnce(4, 4)", x.atOnce(4, 4), BAD);
        due("atOnce(4, 5)", x.atOnce(4, 5), BAD);
        x.undo();
        fill(x, 35);
        due("atOnce(2, 3) FULL", x.atOnce(2, 3), FULL);
        due("atOnce(4, 0) NO ahead of FULL", x.atOnce(4, 0), NO);
        due("atOnce(4, 4) BAD ahead of FULL", x.atOnce(4, 4), BAD);
        LadderOfBows priests = town("p1,0;p2,0;o0,1,4;o1,0,7;");
        due("atOnce(0, 1) of a PRIEST and a CHILD", priests.atOnce(0, 1), 3);
        due("owes(0, 1)", priests.owes(0, 1), 3);
    }

    private static void deaths() {
        about(13);
        LadderOfBows x = town("p1,0;p0,0;p0,0;o0,1,2;o1,2,3;o2,1,4;");
        due("die(3)", x.die(3), BAD);
        due("die(-1)", x.die(-1), BAD);
        due("die(1)", x.die(1), 2);
        due("die(1) again", x.die(1), NO);
        due("count(3)", x.count(3), 0);
        due("count(0)", x.count(0), 3);
        due("days(7)", x.days(7), 7);
        due("owes(0, 1) to a dead one", x.owes(0, 1), 0);
        due("owes(0, 2)", x.owes(0, 2), 1);
        due("die(0)", x.die(0), 1);
        due("days(7)", x.days(7), 14);
        due("count(3): a dead PRIEST owes nothing", x.count(3), 0);
        due("die(2)", x.die(2), 0);
        fill(x, 35);
        due("count(4)", x.count(4), 40);
        due("die(2) NO ahead of FULL", x.die(2), NO);
        due("die(3) BAD ahead of FULL", x.die(3), BAD);
        LadderOfBows y = new LadderOfBows();
        fill(y, 40);
        due("die(0) FULL", y.die(0), FULL);
        due("count(1)", y.count(1), 5);
    }

    private static void days() {
        about(14);
        LadderOfBows x = town("p1,0;p0,0;p1,0;o0,1,8;");
        due("days(0)", x.days(0), BAD);
        due("days(10)", x.days(10), BAD);
        due("days(min)", x.days(Integer.MIN_VALUE), BAD);
        due("days(6)", x.days(6), 6);
        due("count(3)", x.count(3), 8);
        due("days(1)", x.days(1), 7);
        due("count(3)", x.count(3), 9 + 1 + 2);
        due("days(9)", x.days(9), 16);
        due("count(3): 9 at most", x.count(3), 9 + 2 + 4);
        due("count(4)", x.count(4), 3);
        fill(x, 37);
        due("days(1) FULL", x.days(1), FULL);
        due("days(10) BAD ahead of FULL", x.days(10), BAD);
        due("count(2)", x.count(2), 53);
    }

    private static void undo() {
        about(15);
        LadderOfBows x = town("p1,0;p2,0;p3,0;o0,1,2;o1,2,5;o2,0,1;");
        due("undo()", x.undo(), NO);
        x.bow(2, 0);
        x.bow(1, 2);
        x.refuse(0, 1);
        x.days(8);
        x.die(1);
        x.wrong(2, 0);
        due("count(4)", x.count(4), 6);
        due("undo()", x.undo(), 5);
        due("owes(2, 0)", x.owes(2, 0), 0);
        due("count(1)", x.count(1), 2);
        due("undo()", x.undo(), 4);
        due("count(1)", x.count(1), 3);
        due("owes(0, 1)", x.owes(0, 1), 4);
        due("undo()", x.undo(), 3);
        due("count(2)", x.count(2), 0);
        due("owes(0, 1)", x.owes(0, 1), 3);
        due("undo()", x.undo(), 2);
        due("owes(0, 1)", x.owes(0, 1), 2);
        due("undo()", x.undo(), 1);
        due("owes(1, 2)", x.owes(1, 2), 5);
        due("owes(2, 0)", x.owes(2, 0), 0);
        due("undo()", x.undo(), 0);
        due("owes(2, 0)", x.owes(2, 0), 1);
        due("undo()", x.undo(), NO);
        fill(x, 40);
        due("undo()", x.undo(), 39);
        due("days(1)", x.days(1), 40);
    }

    private static void peace() {
        about(16);
        LadderOfBows chain = town("p0,0;p2,0;p0,0;p0,0;o0,1,3;o1,2,9;o2,3,2;");
        duePeace(chain, 2 + 1 + 3, 0, 0);
        LadderOfBows two = town("p0,0;p0,0;o0,1,3;o1,0,5;");
        duePeace(two, 3 + 2, 0, 0);
        LadderOfBows ring = town("p0,0;p0,0;p0,0;p0,0;o0,1,1;o1,2,2;o2,0,3;o3,0,4;");
        duePeace(ring, 0, 10, 15);
        LadderOfBows drunk = town("p3,0;p0,0;o0,1,3;o1,0,2;");
        duePeace(drunk, 3, 0, 0);
        drunk.days(1);
        duePeace(drunk, 2, 3, 3);
        LadderOfBows drunks = town("p3,0;p3,0;o0,1,3;o1,0,2;");
        drunks.days(1);
        duePeace(drunks, 0, 5, 3);
        LadderOfBows priest = town("p1,0;p0,0;p0,0;o0,1,2;o1,0,2;o2,0,1;o1,2,1;");
        duePeace(priest, 6, 0, 0);
        LadderOfBows behind = town("p0,0;p0,0;p0,0;o0,1,1;o1,0,1;o2,0,2;");
        duePeace(behind, 1 + 2, 0, 0);
        duePeace(behind, 3, 0, 0);
        due("count(3): nothing changes", behind.count(3), 4);
        due("peace(-1)", behind.peace(-1), BAD);
        due("peace(3)", behind.peace(3), BAD);
        LadderOfBows alone = town("p0,0;");
        duePeace(alone, 0, 0, 0);
    }

    private static void duePeace(LadderOfBows x, int bows, int owed, int stuck) {
        due("peace(0)", x.peace(0), bows);
        due("peace(1)", x.peace(1), owed);
        due("peace(2)", x.peace(2), stuck);
    }

    private static void ring() {
        about(17);
        LadderOfBows x = town("p0,0;p0,0;p0,0;p0,0;p0,0;o0,2,1;o0,1,1;o1,3,1;o2,3,1;o3,0,1;o2,1,1;o1,2,1;o4,0,1;");
        due("ring(0, 0)", x.ring(0, 0), 3);
        due("ring(0, 1)", x.ring(0, 1), 1);
        due("ring(1, 0)", x.ring(1, 0), 2);
        due("ring(1, 1)", x.ring(1, 1), 2);
        due("ring(3, 0)", x.ring(3, 0), 3);
        due("ring(3, 1)", x.ring(3, 1), 0);
        due("ring(4, 0)", x.ring(4, 0), NONE);
        due("ring(4, 1)", x.ring(4, 1), NONE);
        due("ring(4, 2)", x.ring(4, 2), BAD);
        due("ring(5, 0)", x.ring(5, 0), BAD);
        due("ring(-1, 0)", x.ring(-1, 0), BAD);
        due("ring(0, -1)", x.ring(0, -1), BAD);
        x.die(1);
        due("ring(0, 1)", x.ring(0, 1), 2);
        due("ring(1, 0) dead", x.ring(1, 0), NONE);
        LadderOfBows all = town("p0,0;p0,0;p0,0;p0,0;p0,0;p0,0;p0,0;o0,1,1;o1,2,1;o2,3,1;o3,4,1;o4,5,1;o5,6,1;o6,0,1;");
        due("ring(6, 0)", all.ring(6, 0), 7);
        due("ring(6, 1)", all.ring(6, 1), 0);
    }

    private static void forgiven() {
        about(18);
        LadderOfBows x = town("p0,0;p0,0;p0,0;p0,0;o0,1,5;o1,2,2;o2,0,3;o0,3,1;o3,1,1;");
        // without 0 to 1 the ring 0, 3, 1, 2 is left, without 0 to 3 the ring 0, 1, 2; without 1 to 2 all is paid
        due("forgiven(0)", x.forgiven(0), 8 * 1 + 2);
        due("forgiven(1)", x.forgiven(1), 0);
        due("forgiven(2)", x.forgiven(2), BAD);
        due("forgiven(-1)", x.forgiven(-1), BAD);
        due("count(3): nothing changes", x.count(3), 12);
        LadderOfBows two = town("p0,0;p0,0;p0,0;p0,0;p0,0;p0,0;o0,1,1;o1,2,1;o2,0,1;o3,4,2;o4,5,2;o5,3,2;");
        due("forgiven(0): the ring of more", two.forgiven(0), 8 * 3 + 4);
        due("forgiven(1)", two.forgiven(1), 3);
        LadderOfBows none = town("p0,0;p0,0;");
        due("forgiven(0)", none.forgiven(0), NONE);
        due("forgiven(1)", none.forgiven(1), NONE);
        due("forgiven(2)", none.forgiven(2), BAD);
    }

    private static void mustNot() {
        about(19);
        LadderOfBows x = town("p0,0;p0,0;p1,0;p0,0;o0,1,1;o3,2,9;");
        // were 1 to wrong 0, they owe each other alone: AT ONCE helps; all else is paid, too
        due("mustNot(1)", x.mustNot(1), 0);
        x.wrong(0, 3);
        x.wrong(3, 1);
        // were 1 to wrong 0: 0 and 3 wait for 1, and 1 for 0; were he to wrong 3: 3 pays the PRIEST, then AT ONCE
        due("mustNot(1)", x.mustNot(1), 1);
        due("mustNot(4)", x.mustNot(4), BAD);
        due("mustNot(-1)", x.mustNot(-1), BAD);
        due("count(3): nothing changes", x.count(3), 12);
        x.die(1);
        due("mustNot(1) dead", x.mustNot(1), NO);
        due("mustNot(0): the dead are not among them", x.mustNot(0) & 2, 0);
        LadderOfBows ring = town("p0,0;p0,0;p0,0;o0,1,9;o1,2,8;o2,0,1;");
        due("mustNot(0): 9 already", ring.mustNot(0), 4);
        due("mustNot(1)", ring.mustNot(1), 5);
        fill(ring, 40);
        due("mustNot(1) with 40 ACTS", ring.mustNot(1), 5);
    }

    private static void began() {
        about(20);
        LadderOfBows x = town("p0,0;p0,0;p0,0;");
        due("began()", x.began(), NONE);
        x.wrong(0, 1);
        x.days(1);
        x.wrong(1, 2);
        due("began()", x.began(), NONE);
        x.wrong(2, 0);
        due("began()", x.began(), 0);
        x.bow(0, 1);
        due("began(): a BOW that was NO is no ACT", x.count(4), 4);
        LadderOfBows later = town("p0,0;p0,0;p0,0;o0,1,1;o1,2,1;");
        later.days(2);
        later.wrong(0, 2);
        later.wrong(2, 0);
        // without 0's WRONG the ring of three stays, but 1 less is owed
        due("began()", later.began(), 1);
        LadderOfBows again = town("p0,0;p0,0;p0,0;o0,1,1;o1,2,1;o2,0,1;");
        again.wrong(1, 0);
        again.die(1);
        again.wrong(0, 2);
        // 2 owes 0 and 0 owes 2 alone: peace; without the death 4 more are stuck: nothing is less than 0
        due("began()", again.began(), NONE);
        LadderOfBows drunk = town("p3,0;p0,0;o0,1,2;");
        drunk.days(2);
        drunk.days(3);
        // without DAYS of 2 it is day 3, odd; without DAYS of 3 it is day 2, even
        due("began()", drunk.began(), 1);
    }

    private static void word() {
        about(21);
        LadderOfBows x = town("p0,0;p0,0;p0,0;p0,0;p0,0;o0,2,1;o3,0,1;o1,3,1;o0,4,1;o1,4,1;o2,4,1;o3,4,1;");
        due("word(0, 0)", x.word(0, 0), 0);
        due("word(0, 1)", x.word(0, 1), 1);
        due("word(0, 2)", x.word(0, 2), 2);
        due("word(0, 3)", x.word(0, 3), 3);
        due("word(3, 0)", x.word(3, 0), 3);
        due("word(0, 4)", x.word(0, 4), NONE);
        due("word(4, 4)", x.word(4, 4), 0);
        due("word(5, 0)", x.word(5, 0), BAD);
        due("word(0, -1)", x.word(0, -1), BAD);
        x.die(1);
        due("word(0, 2)", x.word(0, 2), NONE);
        due("word(1, 1)", x.word(1, 1), NONE);
        due("word(1, 0)", x.word(1, 0), NONE);
        due("word(2, 3)", x.word(2, 3), 1);
    }

    private static void vote() {
        about(22);
        LadderOfBows x = town("p0,0;p0,0;p0,0;p0,0;o0,1,1;o0,2,1;o1,3,1;o2,3,1;");
        // {1, 2} is 6, {0, 3} is 9
        due("vote()", x.vote(), 6);
        x.die(1);
        due("vote()", x.vote(), 9);
        x.die(0);
        due("vote()", x.vote(), 4);
        x.die(2);
        due("vote()", x.vote(), 8);
        x.die(3);
        due("vote() of nobody", x.vote(), 0);
        due("vote() of all", town("p0,0;p0,0;p0,0;p0,0;p0,0;p0,0;p0,0;").vote(), 127);
    }

    private static void deals() {
        about(23);
        due("deals() of 7", town("p0,0;p0,0;p0,0;p0,0;p0,0;p0,0;p0,0;").deals(), 3);
        due("deals() of 1", town("p0,0;").deals(), 0);
        LadderOfBows star = town("p0,0;p0,0;p0,0;p0,0;o1,2,1;o2,3,1;o3,1,1;");
        due("deals() of a star", star.deals(), 1);
        LadderOfBows path = town("p0,0;p0,0;p0,0;p0,0;o0,2,1;o0,3,1;o2,3,1;");
        // 1 with all, 0 with 1 alone: 1 serves one two only
        due("deals() of another star", path.deals(), 1);
        LadderOfBows greedy = town("p0,0;p0,0;p0,0;p0,0;o0,3,1;o1,2,1;o1,3,1;");
        // 0-1, 0-2, 2-3: the first two with 2 would leave but one
        due("deals()", greedy.deals(), 2);
        greedy.die(3);
        due("deals()", greedy.deals(), 1);
    }

    private static void guests() {
        about(24);
        LadderOfBows x = town("p0,0;p0,0;p0,0;p0,0;p0,0;o0,3,1;o4,1,1;o0,1,2;");
        due("guests(0, 1)", x.guests(0, 1), 4);
        due("guests(0, 2)", x.guests(0, 2), 16);
        due("guests(2, 3)", x.guests(2, 3), 2 + 16);
        due("guests(2, 2)", x.guests(2, 2), BAD);
        due("guests(5, 2)", x.guests(5, 2), BAD);
        due("guests(2, -1)", x.guests(2, -1), BAD);
        x.die(4);
        due("guests(2, 3)", x.guests(2, 3), 2);
        due("guests(4, 3)", x.guests(4, 3), NO);
        due("guests(3, 4)", x.guests(3, 4), NO);
        due("guests(4, 4)", x.guests(4, 4), BAD);
    }

    private static void court() {
        about(25);
        // a ring of three and one who waits for it: three of four debts free it
        LadderOfBows x = town("p0,0;p0,0;p0,0;p0,0;o0,1,1;o1,2,1;o2,0,1;o3,0,4;");
        dueCourt(x, 0, 0, 1);
        dueCourt(x, 1, 3, 4);
        dueCourt(x, 2, 1, 1);
        // two rings: one of each is needed
        LadderOfBows two = town("p0,0;p0,0;p0,0;p0,0;p0,0;p0,0;o0,1,1;o1,2,1;o2,0,1;o3,4,2;o4,5,2;o5,3,2;");
        dueCourt(two, 0, 0, 1);
        dueCourt(two, 1, 0, 1);
        dueCourt(two, 2, 3, 5);
        LadderOfBows one = town("p0,0;p0,0;o0,1,9;");
        dueCourt(one, 0, 1, 1);
        dueCourt(one, 1, 1, 1);
        dueCourt(one, 2, NONE, NONE);
        LadderOfBows none = town("p0,0;");
        dueCourt(none, 0, 1, 1);
        dueCourt(none, 1, NONE, NONE);
        due("court(-1, 0)", none.court(-1, 0), BAD);
        due("court(3, 0)", none.court(3, 0), BAD);
        due("court(0, 2)", none.court(0, 2), BAD);
        due("court(2, -1): BAD ahead of NONE", none.court(2, -1), BAD);
    }

    private static void dueCourt(LadderOfBows x, int n, int above, int below) {
        due("court(" + n + ", 0)", x.court(n, 0), above);
        due("court(" + n + ", 1)", x.court(n, 1), below);
    }

    private static void stranger() {
        about(26);
        LadderOfBows x = town("p0,0;p1,0;p0,0;p0,0;o0,2,1;o2,3,1;o3,0,1;o1,0,1;");
        // he bows to the PRIEST alone
        due("stranger(0)", x.stranger(0), 101);
        due("stranger(1)", x.stranger(1), 103);
        due("stranger(2)", x.stranger(2), BAD);
        due("stranger(-1)", x.stranger(-1), BAD);
        x.die(3);
        due("stranger(0)", x.stranger(0), 103);
        due("stranger(1)", x.stranger(1), 100);
        due("count(0): nothing changes", x.count(0), 4);
        LadderOfBows seven = town("p0,0;p0,0;p0,0;p0,0;p0,0;p0,0;p0,0;");
        due("stranger(0)", seven.stranger(0), FULL);
        due("stranger(2): BAD ahead of FULL", seven.stranger(2), BAD);
        seven.die(0);
        due("stranger(0): PERSONS, dead or not", seven.stranger(0), FULL);
        LadderOfBows six = town("p0,0;p0,0;p0,0;p0,0;p0,0;p0,0;");
        due("stranger(0)", six.stranger(0), 106);
        LadderOfBows dead = town("p0,0;");
        dead.die(0);
        due("stranger(0) among the dead", dead.stranger(0), 100);
        due("stranger(1) among the dead", dead.stranger(1), 100);
    }

    private static void easter() {
        about(27);
        LadderOfBows x = town("p3,0;p0,0;o0,1,2;e3;");
        due("easter()", x.easter(), 0);
        x.days(1);
        due("easter(): a DRUNK one pays on day 2", x.easter(), 2);
        x.days(2);
        due("easter() on EASTER itself", x.easter(), NONE);
        x.undo();
        x.days(1);
        x.days(1);
        x.bow(0, 1);
        due("easter()", x.easter(), NONE);
        LadderOfBows paid = town("p0,0;e1;");
        paid.days(1);
        due("easter() on EASTER itself, nothing being owed", paid.easter(), 1);
        paid.days(1);
        due("easter() behind EASTER", paid.easter(), NONE);
        LadderOfBows forty = town("p3,0;p0,0;o0,1,1;");
        for (int k = 0; k < 4; k++) {
            forty.days(9);
        }
        forty.days(3);
        due("easter() on day 39", forty.easter(), 40);
        forty.days(1);
        due("easter() on day 40", forty.easter(), 40);
        forty.days(1);
        due("easter() on day 41", forty.easter(), NONE);
        LadderOfBows idle = town("p0,0;");
        for (int k = 0; k < 4; k++) {
            idle.days(9);
        }
        idle.days(4);
        due("easter() on day 40, nothing being owed", idle.easter(), 40);
        idle.days(1);
        due("easter() on day 41, nothing being owed", idle.easter(), NONE);
        // PEACE of day 0 leaves the ring; nothing comes by itself
        due("easter() of a ring", town("p0,0;p0,0;p0,0;o0,1,1;o1,2,1;o2,0,1;e60;").easter(), NONE);
        // PEACE of each day is kept: AT ONCE on day 1 the PLAIN one pays all, on day 2 the DRUNK one
        LadderOfBows both = town("p3,0;p0,0;o0,1,2;o1,0,3;e9;");
        both.days(1);
        due("easter()", both.easter(), 2);
        due("count(2): nothing changes", both.count(2), 1);
        due("count(3): nothing changes", both.count(3), 5);
        // a PRIEST wrongs everybody on day 7, ahead of its PEACE
        LadderOfBows priest = town("p1,0;p3,0;o1,0,1;e7;");
        priest.days(7);
        due("easter(): the DRUNK one owes and does not pay", priest.easter(), NONE);
    }

    private static void silentAndForget() {
        about(28);
        LadderOfBows x = new LadderOfBows();
        due("silent(-1)", x.silent(-1), BAD);
        due("silent(4)", x.silent(4), BAD);
        for (int k = 1; k <= 6; k++) {
            due("silent(2)", x.silent(2), k);
        }
        due("silent(2) FULL", x.silent(2), FULL);
        due("silent(4) BAD ahead of FULL", x.silent(4), BAD);
        due("count(5)", x.count(5), 6);
        about(29);
        due("forget()", x.forget(), 6);
        due("forget()", x.forget(), 0);
        due("silent(3)", x.silent(3), 1);
        due("forget()", x.forget(), 1);
    }

    private static void fits() {
        about(30);
        LadderOfBows x = town("p0,0;p0,0;p0,0;p0,1;p0,1;o0,1,8;o2,1,1;");
        due("fits(0), nothing SILENT", x.fits(0), 20);
        due("fits(1), nothing SILENT", x.fits(1), 1);
        x.silent(0);
        // 0 and 2 alone speak in STREET 0
        due("fits(0)", x.fits(0), 2);
        due("fits(1)", x.fits(1), 2);
        x.silent(0);
        due("fits(0), twice told", x.fits(0), 2);
        x.silent(1);
        due("fits(0), two twos who speak", x.fits(0), 0);
        due("fits(1), two twos who speak", x.fits(1), NONE);
        x.die(3);
        due("fits(0)", x.fits(0), 2);
        x.wrong(2, 0);
        // nobody speaks there anyway: 4 alive, all twelve
        due("fits(0)", x.fits(0), 12);
        due("fits(1)", x.fits(1), 1);
        x.die(0);
        due("fits(0)", x.fits(0), 6);
        due("fits(1)", x.fits(1), 8 * 1 + 2);
        due("fits(2)", x.fits(2), BAD);
        due("fits(-1)", x.fits(-1), BAD);
    }

    private static void fitsWhereNineAreOwed() {
        about(30);
        LadderOfBows x = town("p0,0;p0,0;p0,1;o0,1,8;");
        due("fits(0), 8 owed", x.fits(0), 6);
        due("fits(1), 8 owed", x.fits(1), 1);
        x.wrong(0, 1);
        due("wrong(0, 1), 9 owed", x.wrong(0, 1), NO);
        due("fits(0), 9 owed", x.fits(0), 5);
        due("fits(1), 9 owed", x.fits(1), 2);
        x.silent(0);
        due("fits(0), 9 owed, SILENT", x.fits(0), 5);
        due("fits(1), 9 owed, SILENT", x.fits(1), 2);
        due("owes(0, 1), nothing changed", x.owes(0, 1), 9);
        x.undo();
        due("fits(0), UNDONE", x.fits(0), 6);
        due("fits(1), UNDONE", x.fits(1), 1);
        x = town("p0,0;p0,0;o0,1,9;");
        due("fits(0), the other way", x.fits(0), 1);
        due("fits(1), the other way", x.fits(1), 8 * 1);
        x = town("p0,0;p0,0;o0,1,9;o1,0,9;");
        due("fits(0), all owe 9", x.fits(0), 0);
        due("fits(1), all owe 9", x.fits(1), NONE);
        x = town("p0,0;");
        due("fits(0), one alone", x.fits(0), 0);
        due("fits(1), one alone", x.fits(1), NONE);
    }

    private static void year() {
        about(31);
        LadderOfBows x = town("p0,0;p0,0;p0,0;");
        // z 0: step 0 draws 1: i 1, j 0, way 0: 1 WRONGS 0
        due("year(0, 1, 0)", x.year(0, 1, 0), 1);
        due("year(0, 1, 1)", x.year(0, 1, 1), 0);
        // z 1: x 7920, 62726400 modulo 65521 is 22803: i 0, j 2850 modulo 3 = 0, way 356 modulo 4 = 0: alike
        due("year(1, 1, 0)", x.year(1, 1, 0), 0);
        LadderOfBows seven = town("p0,0;p0,0;p0,0;p0,0;p0,0;p0,0;p0,0;");
        // of seven: i 22803 modulo 7 = 4, j 2850 modulo 7 = 1
        due("year(1, 1, 0)", seven.year(1, 1, 0), 1);
        seven.die(4);
        due("year(1, 1, 0), i dead", seven.year(1, 1, 0), 0);
        due("year(-1, 1, 0)", x.year(-1, 1, 0), BAD);
        due("year(10000, 1, 0)", x.year(10000, 1, 0), BAD);
        due("year(0, 0, 0)", x.year(0, 0, 0), BAD);
        due("year(0, 61, 0)", x.year(0, 61, 0), BAD);
        due("year(0, 1, 2)", x.year(0, 1, 2), BAD);
        due("year(0, 1, -1)", x.year(0, 1, -1), BAD);
        due("year(9999, 60, 0) of one", town("p0,0;").year(9999, 60, 0), 0);
        due("count(3): nothing changes", x.count(3), 0);
        due("count(4): nothing changes", x.count(4), 0);
        yearOfBows();
    }

    /** A way of 2 or 3 is a BOW: looked for here as the document tells it, since few years start with one. */
    private static void yearOfBows() {
        for (int z = 0; z <= 9999; z += 9) {
            long x = 7919L * z + 1;
            int draw = (int) (x * x % 65521);
            int i = draw % 2, j = draw / 8 % 2, way = draw / 64 % 4;
            int debt = i == 0 && j == 1 ? 2 : 0;
            LadderOfBows town = town("p3,0;p0,0;o0,1,2;");
            boolean bows = way > 1 && debt > 0;
            boolean wrongs = way == 0 && i != j;
            due("year(" + z + ", 1, 1)", town.year(z, 1, 1), bows ? 1 : 0);
            due("year(" + z + ", 1, 0)", town.year(z, 1, 0), 2 + (wrongs ? 1 : 0) - (bows ? 1 : 0));
            town.days(1);
            due("year(" + z + ", 1, 1), odd", town.year(z, 1, 1), bows ? 1 : 0);
            due("year(" + z + ", 1, 0), odd", town.year(z, 1, 0), 2 + (wrongs ? 1 : 0));
            LadderOfBows priests = town("p1,0;p0,0;");
            priests.days(6);
            due("year(" + z + ", 1, 0), day 6", priests.year(z, 1, 0), wrongs || way == 1 ? 1 : 0);
        }
    }

    private static void keepAndBack() {
        about(32);
        LadderOfBows x = new LadderOfBows();
        due("keep()", x.keep(), 1);
        x.wrong(0, 3);
        x.days(2);
        due("keep()", x.keep(), 2);
        due("keep() FULL", x.keep(), FULL);
        about(33);
        x.undo();
        x.undo();
        x.die(2);
        x.silent(1);
        due("back()", x.back(), 1);
        due("count(4)", x.count(4), 2);
        due("count(2)", x.count(2), 2);
        due("count(1)", x.count(1), 5);
        due("owes(0, 3)", x.owes(0, 3), 1);
        due("count(5): SILENT is no ACT", x.count(5), 1);
        due("undo()", x.undo(), 1);
        due("undo()", x.undo(), 0);
        x.wrong(1, 3);
        due("keep()", x.keep(), 2);
        due("back()", x.back(), 1);
        due("owes(1, 3)", x.owes(1, 3), 1);
        due("back()", x.back(), 0);
        due("owes(1, 3)", x.owes(1, 3), 0);
        due("count(4)", x.count(4), 0);
        due("back()", x.back(), NO);
        due("keep()", x.keep(), 1);
        due("count(6)", x.count(6), 1);
    }

    private static void count() {
        about(34);
        LadderOfBows x = town("p1,0;p0,0;p0,0;o0,1,2;");
        x.days(7);
        x.die(1);
        x.silent(3);
        x.keep();
        int[] want = {3, 2, 7, 1, 2, 1, 1, 22};
        for (int what = 0; what < want.length; what++) {
            due("count(" + what + ")", x.count(what), want[what]);
        }
        due("count(-1)", x.count(-1), BAD);
        due("count(8)", x.count(8), BAD);
        due("count(min)", x.count(Integer.MIN_VALUE), BAD);
        due("BAD", LadderOfBows.BAD, -1);
        due("NO", LadderOfBows.NO, -2);
        due("FULL", LadderOfBows.FULL, -3);
        due("NONE", LadderOfBows.NONE, -4);
    }
}
