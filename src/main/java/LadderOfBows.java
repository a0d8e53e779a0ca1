import java.util.Arrays;

/** A town in which nobody speaks to one whom he has wronged till he has bowed to him. */
public final class LadderOfBows {
    public static final int BAD = -1, NO = -2, FULL = -3, NONE = -4;

    private static final int PLAIN = 0, PRIEST = 1, CHILD = 2, DRUNK = 3;
    private static final int WRONG = 0, BOW = 1, REFUSE = 2, AT_ONCE = 3, DIE = 4, DAYS = 5;

    private static final int MOST_LETTERS = 200, LOWEST_LETTER = 32, HIGHEST_LETTER = 126;
    private static final int KINDS = 4, STREETS = 4;
    private static final int MOST_PERSONS = 7;
    /** One place more than PERSONS, for the stranger; a two is told as 8 times the one and the other. */
    private static final int ROOM = 8;
    private static final int MOST_OWED = 9;
    private static final int MOST_OWED_IN_ALL = ROOM * (ROOM - 1) * MOST_OWED;
    private static final int FIRST_EASTER = 40, LATEST_EASTER = 60;
    private static final int WEEK = 7, MOST_DAYS = 9;
    private static final int MOST_ACTS = 40, MOST_SILENT = 6, MOST_KEPT = 2;
    private static final int MOST_LOTS = 2;
    private static final int STRANGER_BASE = 100;
    private static final int LAST_SEED = 9999, MOST_STEPS = 60;
    private static final int DRAW_MODULUS = 65521;
    /** Stands where an ACT or a debt could be left out, and none is. */
    private static final int NOTHING = -1;
    private static final String FIRST_TOWN =
            "p0,0;p0,1;p1,0;p2,1;p3,0;o0,1,1;o1,2,2;o2,0,1;o3,4,3;o4,3,1;";

    private final Letters text;
    private final Reader reader;
    private final Town start;
    private final Town now;
    /** What is only thought of is done here, so that no call makes a town of its own. */
    private final Town trial;
    private final Acts acts;
    private final Acts keptFirst;
    private final Acts keptSecond;
    private int keptTowns;
    private int silences;
    private int silentStreets;
    private final Links links;
    private final int[] debtPlaces;

    public LadderOfBows() {
        text = new Letters();
        reader = new Reader();
        start = firstTown();
        now = firstTown();
        trial = new Town();
        acts = new Acts();
        keptFirst = new Acts();
        keptSecond = new Acts();
        links = new Links();
        debtPlaces = new int[ROOM * ROOM];
    }

    private static Town firstTown() {
        Letters letters = new Letters();
        for (int place = 0; place < FIRST_TOWN.length(); place++) {
            letters.add(FIRST_TOWN.charAt(place));
        }
        Town town = new Town();
        new Reader().readTown(letters, town);
        return town;
    }

    // ---- towns

    public int write(int letter) {
        if (letter < LOWEST_LETTER || letter > HIGHEST_LETTER) {
            return BAD;
        }
        if (text.length() >= MOST_LETTERS) {
            return FULL;
        }
        text.add(letter);
        return text.length();
    }

    public int wipe() {
        int length = text.length();
        text.clear();
        return length;
    }

    public int fault() {
        return reader.readTown(text, trial);
    }

    public int lay() {
        if (reader.readTown(text, trial) != NONE || trial.persons() < 1) {
            return NO;
        }
        start.copyFrom(trial);
        now.copyFrom(trial);
        acts.clear();
        forgetSilence();
        keptTowns = 0;
        return now.persons();
    }

    public int person(int i, int what) {
        if (!isPerson(i)) {
            return BAD;
        }
        switch (what) {
            case 0:
                return now.kindOf(i);
            case 1:
                return now.streetOf(i);
            case 2:
                return asNumber(now.isAlive(i));
            case 3:
                return now.owing(i);
            case 4:
                return now.owedTo(i);
            case 5:
                return asNumber(now.isAlive(i) && now.takesApology(i));
            default:
                return BAD;
        }
    }

    public int owes(int i, int j) {
        return areTwo(i, j) ? now.debt(i, j) : BAD;
    }

    public int speak(int i, int j) {
        return areTwo(i, j) ? asNumber(now.maySpeak(i, j)) : BAD;
    }

    // ---- acts

    public int wrong(int i, int j) {
        return actOfTwo(WRONG, i, j);
    }

    public int bow(int i, int j) {
        return actOfTwo(BOW, i, j);
    }

    public int refuse(int i, int j) {
        return actOfTwo(REFUSE, i, j);
    }

    public int atOnce(int i, int j) {
        int answer = actOfTwo(AT_ONCE, i, j);
        return answer < 0 ? answer : now.debt(i, j) + now.debt(j, i);
    }

    public int die(int i) {
        if (!isPerson(i)) {
            return BAD;
        }
        int refusal = act(DIE, i, i);
        return refusal < 0 ? refusal : Integer.bitCount(now.aliveBits());
    }

    public int days(int n) {
        if (n < 1 || n > MOST_DAYS) {
            return BAD;
        }
        int refusal = act(DAYS, n, n);
        return refusal < 0 ? refusal : now.day();
    }

    public int undo() {
        if (acts.size() < 1) {
            return NO;
        }
        acts.dropLatest();
        doAgain(now, NOTHING);
        return acts.size();
    }

    // ---- peace

    public int peace(int what) {
        if (what < 0 || what > 2) {
            return BAD;
        }
        trial.copyFrom(now);
        int bows = trial.makePeace();
        if (what == 0) {
            return bows;
        }
        return what == 1 ? trial.allOwed() : trial.stuckBits();
    }

    public int ring(int i, int what) {
        if (!isPerson(i) || !isZeroOrOne(what)) {
            return BAD;
        }
        now.linkDebts(links);
        int fewest = NONE;
        int second = NONE;
        for (int j = 0; j < now.persons(); j++) {
            int home = links.areLinked(i, j) ? links.steps(j, i) : NONE;
            if (home != NONE && (fewest == NONE || home + 1 < fewest)) {
                fewest = home + 1;
                second = j;
            }
        }
        return what == 0 ? fewest : second;
    }

    public int forgiven(int what) {
        if (!isZeroOrOne(what)) {
            return BAD;
        }
        int debts = listDebts();
        int bestPlace = NONE;
        int least = NONE;
        for (int d = 0; d < debts; d++) {
            int owed = owedWithout(d, NOTHING);
            if (bestPlace == NONE || owed < least) {
                bestPlace = debtPlaces[d];
                least = owed;
            }
        }
        return what == 0 ? bestPlace : least;
    }

    public int mustNot(int i) {
        if (!isPerson(i)) {
            return BAD;
        }
        if (!now.isAlive(i)) {
            return NO;
        }
        int owed = owedWithout(NOTHING, NOTHING);
        int bits = 0;
        for (int j = 0; j < now.persons(); j++) {
            if (now.canBeDone(WRONG, i, j) && owedBehindWrong(i, j) > owed) {
                bits |= 1 << j;
            }
        }
        return bits;
    }

    public int began() {
        int owed = owedWithout(NOTHING, NOTHING);
        for (int k = 0; k < acts.size(); k++) {
            doAgain(trial, k);
            trial.makePeace();
            if (trial.allOwed() < owed) {
                return k;
            }
        }
        return NONE;
    }

    // ---- talk

    public int word(int i, int j) {
        if (!isPerson(i) || !isPerson(j)) {
            return BAD;
        }
        if (!now.isAlive(i) || !now.isAlive(j)) {
            return NONE;
        }
        now.linkSpeakers(links);
        return links.steps(i, j);
    }

    public int vote() {
        now.linkSpeakers(links);
        return links.largestSet(now.aliveBits());
    }

    public int deals() {
        now.linkSpeakers(links);
        return links.mostTwos();
    }

    public int guests(int i, int j) {
        if (!areTwo(i, j)) {
            return BAD;
        }
        if (!now.isAlive(i) || !now.isAlive(j)) {
            return NO;
        }
        now.linkSpeakers(links);
        return links.linkedTo(i) & links.linkedTo(j);
    }

    // ---- courts, strangers

    public int court(int n, int part) {
        if (n < 0 || n > MOST_LOTS || !isZeroOrOne(part)) {
            return BAD;
        }
        int debts = listDebts();
        if (debts < n) {
            return NONE;
        }
        int above = lotsThatFree(n, debts);
        int below = lotsInAll(n, debts);
        int shared = greatestDivisor(above, below);
        if (shared < 1) {
            return NONE;
        }
        return (part == 0 ? above : below) / shared;
    }

    public int stranger(int what) {
        if (!isZeroOrOne(what)) {
            return BAD;
        }
        if (now.persons() >= MOST_PERSONS) {
            return FULL;
        }
        trial.copyFrom(now);
        int bows = trial.makePeace();
        int owed = trial.allOwed();
        trial.copyFrom(now);
        trial.addStranger();
        int moreBows = trial.makePeace() - bows;
        int moreOwed = trial.allOwed() - owed;
        return STRANGER_BASE + (what == 0 ? moreBows : moreOwed);
    }

    public int easter() {
        trial.copyFrom(now);
        for (int day = now.day(); day <= now.easterDay(); day++) {
            trial.makePeace();
            if (trial.allOwed() == 0) {
                return day;
            }
            trial.passDay();
        }
        return NONE;
    }

    // ---- silence, years

    public int silent(int street) {
        if (street < 0 || street >= STREETS) {
            return BAD;
        }
        if (silences >= MOST_SILENT) {
            return FULL;
        }
        silences++;
        silentStreets |= 1 << street;
        return silences;
    }

    public int forget() {
        int silencesBefore = silences;
        forgetSilence();
        return silencesBefore;
    }

    public int fits(int what) {
        if (!isZeroOrOne(what)) {
            return BAD;
        }
        int number = 0;
        int first = NONE;
        for (int i = 0; i < now.persons(); i++) {
            for (int j = 0; j < now.persons(); j++) {
                if (wrongFits(i, j)) {
                    first = number == 0 ? twoAsNumber(i, j) : first;
                    number++;
                }
            }
        }
        return what == 0 ? number : first;
    }

    public int year(int z, int n, int what) {
        if (z < 0 || z > LAST_SEED || n < 1 || n > MOST_STEPS || !isZeroOrOne(what)) {
            return BAD;
        }
        trial.copyFrom(now);
        int bows = 0;
        for (int k = 0; k < n; k++) {
            bows += bowsInStep(z, k);
        }
        return what == 0 ? trial.allOwed() : bows;
    }

    // ---- kept

    public int keep() {
        if (keptTowns >= MOST_KEPT) {
            return FULL;
        }
        keptTowns++;
        latestKept().copyFrom(acts);
        return keptTowns;
    }

    public int back() {
        if (keptTowns < 1) {
            return NO;
        }
        acts.copyFrom(latestKept());
        keptTowns--;
        doAgain(now, NOTHING);
        return keptTowns;
    }

    public int count(int what) {
        switch (what) {
            case 0:
                return now.persons();
            case 1:
                return Integer.bitCount(now.aliveBits());
            case 2:
                return now.day();
            case 3:
                return now.allOwed();
            case 4:
                return acts.size();
            case 5:
                return silences;
            case 6:
                return keptTowns;
            case 7:
                return text.length();
            default:
                return BAD;
        }
    }

    // ---- what the calls share

    private boolean isPerson(int i) {
        return i >= 0 && i < now.persons();
    }

    private boolean areTwo(int i, int j) {
        return isPerson(i) && isPerson(j) && i != j;
    }

    private static boolean isZeroOrOne(int what) {
        return what == 0 || what == 1;
    }

    private static int asNumber(boolean isSo) {
        return isSo ? 1 : 0;
    }

    private static int twoAsNumber(int i, int j) {
        return ROOM * i + j;
    }

    /** Does an ACT of i to j: how much i owes j behind it. */
    private int actOfTwo(int kind, int i, int j) {
        if (!areTwo(i, j)) {
            return BAD;
        }
        int refusal = act(kind, i, j);
        return refusal < 0 ? refusal : now.debt(i, j);
    }

    private int act(int kind, int i, int j) {
        if (!now.canBeDone(kind, i, j)) {
            return NO;
        }
        if (acts.size() >= MOST_ACTS) {
            return FULL;
        }
        acts.add(kind, i, j);
        now.perform(kind, i, j);
        return 0;
    }

    /** All ACTS but one, from the start, as far as they can be. */
    private void doAgain(Town town, int leftOut) {
        town.copyFrom(start);
        for (int k = 0; k < acts.size(); k++) {
            int kind = acts.kindAt(k);
            int i = acts.firstAt(k);
            int j = acts.secondAt(k);
            if (k != leftOut && town.canBeDone(kind, i, j)) {
                town.perform(kind, i, j);
            }
        }
    }

    private Acts latestKept() {
        return keptTowns == 1 ? keptFirst : keptSecond;
    }

    private void forgetSilence() {
        silences = 0;
        silentStreets = 0;
    }

    /** Lists the places of all debts that are something, by who owes, then to whom: how many. */
    private int listDebts() {
        int debts = 0;
        for (int i = 0; i < now.persons(); i++) {
            for (int j = 0; j < now.persons(); j++) {
                if (now.debt(i, j) > 0) {
                    debtPlaces[debts] = twoAsNumber(i, j);
                    debts++;
                }
            }
        }
        return debts;
    }

    /** What is owed behind PEACE, were the listed debts a and b (or NOTHING) forgiven. */
    private int owedWithout(int a, int b) {
        trial.copyFrom(now);
        forgiveInTrial(a);
        forgiveInTrial(b);
        trial.makePeace();
        return trial.allOwed();
    }

    private void forgiveInTrial(int listed) {
        if (listed != NOTHING) {
            int place = debtPlaces[listed];
            trial.setDebt(place / ROOM, place % ROOM, 0);
        }
    }

    private int owedBehindWrong(int i, int j) {
        trial.copyFrom(now);
        trial.perform(WRONG, i, j);
        trial.makePeace();
        return trial.allOwed();
    }

    /** Which of two debts is drawn first does not matter, so each two is looked at once. */
    private int lotsThatFree(int n, int debts) {
        if (n == 0) {
            return asNumber(owedWithout(NOTHING, NOTHING) == 0);
        }
        int freeing = 0;
        for (int a = 0; a < debts; a++) {
            if (n == 1) {
                freeing += asNumber(owedWithout(a, NOTHING) == 0);
            }
            for (int b = a + 1; b < debts && n == 2; b++) {
                freeing += asNumber(owedWithout(a, b) == 0);
            }
        }
        return freeing;
    }

    private static int lotsInAll(int n, int debts) {
        if (n == 0) {
            return 1;
        }
        return n == 1 ? debts : debts * (debts - 1) / 2;
    }

    private static int greatestDivisor(int a, int b) {
        int divisor = b;
        int rest = a;
        for (int step = 0; step < MOST_OWED_IN_ALL && rest != 0; step++) {
            int next = divisor % rest;
            divisor = rest;
            rest = next;
        }
        return divisor;
    }

    /** A WRONG that can not be done now (one is dead, 9 are owed already) fits nowhere. */
    private boolean wrongFits(int i, int j) {
        if (!now.canBeDone(WRONG, i, j)) {
            return false;
        }
        trial.copyFrom(now);
        trial.perform(WRONG, i, j);
        return !trial.anySpeakIn(silentStreets);
    }

    private int bowsInStep(int z, int k) {
        int persons = trial.persons();
        if (persons < 1) {
            return 0;
        }
        long x = 7919L * z + 6151L * k + 1;
        int draw = (int) (x * x % DRAW_MODULUS);
        int i = draw % persons;
        int j = draw / 8 % persons;
        int way = draw / 64 % 4;
        if (way == 1) {
            trial.passDay();
            return 0;
        }
        int kind = way == 0 ? WRONG : BOW;
        if (!trial.canBeDone(kind, i, j)) {
            return 0;
        }
        trial.perform(kind, i, j);
        return asNumber(kind == BOW);
    }

    /** THE TEXT. */
    private static final class Letters {
        private final int[] letters = new int[MOST_LETTERS];
        private int length;

        void clear() {
            length = 0;
        }

        void add(int letter) {
            if (length < MOST_LETTERS) {
                letters[length] = letter;
                length++;
            }
        }

        int length() {
            return length;
        }

        /** Behind the end there is 0, which is no letter of a TEXT. */
        int at(int place) {
            return place >= 0 && place < length ? letters[place] : 0;
        }

        /** What the figure there is worth, BAD if there is none. */
        int figureAt(int place) {
            int letter = at(place);
            return letter >= '0' && letter <= '9' ? letter - '0' : BAD;
        }
    }

    /** Reads a town out of a TEXT. */
    private static final class Reader {
        private static final int MOST_NUMBERS = 3;

        private final int[] numbers = new int[MOST_NUMBERS];

        /** Answers the FAULT, or NONE; the town is whole only then. */
        int readTown(Letters text, Town town) {
            town.clear();
            int place = 0;
            for (int item = 0; item < MOST_LETTERS && place < text.length(); item++) {
                int behind = readItem(text, place, town);
                if (behind == BAD) {
                    return place;
                }
                place = behind;
            }
            return NONE;
        }

        /** Answers the place behind the ITEM, BAD if it is not so. */
        private int readItem(Letters text, int place, Town town) {
            int letter = text.at(place);
            int behind = readNumbers(text, place + 1, numbersBehind(letter));
            if (behind == BAD) {
                return BAD;
            }
            switch (letter) {
                case 'p':
                    return takePerson(town) ? behind : BAD;
                case 'o':
                    return takeDebt(town) ? behind : BAD;
                case 'e':
                    return takeEaster(town) ? behind : BAD;
                default:
                    return BAD;
            }
        }

        private static int numbersBehind(int letter) {
            switch (letter) {
                case 'p':
                    return 2;
                case 'o':
                    return 3;
                case 'e':
                    return 1;
                default:
                    return 0;
            }
        }

        /** A third figure stands where the sign must be, and so is refused there. */
        private int readNumbers(Letters text, int from, int wanted) {
            int place = from;
            for (int k = 0; k < wanted && k < MOST_NUMBERS; k++) {
                int first = text.figureAt(place);
                int second = text.figureAt(place + 1);
                int signPlace = place + (second == BAD ? 1 : 2);
                int sign = k + 1 < wanted ? ',' : ';';
                if (first == BAD || text.at(signPlace) != sign) {
                    return BAD;
                }
                numbers[k] = second == BAD ? first : 10 * first + second;
                place = signPlace + 1;
            }
            return wanted > 0 ? place : BAD;
        }

        private boolean takePerson(Town town) {
            boolean isSo = numbers[0] < KINDS && numbers[1] < STREETS && town.persons() < MOST_PERSONS;
            if (isSo) {
                town.addPerson(numbers[0], numbers[1]);
            }
            return isSo;
        }

        private boolean takeDebt(Town town) {
            int i = numbers[0];
            int j = numbers[1];
            boolean isSo = i < town.persons() && j < town.persons() && i != j && numbers[2] <= MOST_OWED;
            if (isSo) {
                town.setDebt(i, j, numbers[2]);
            }
            return isSo;
        }

        private boolean takeEaster(Town town) {
            boolean isSo = numbers[0] >= 1 && numbers[0] <= LATEST_EASTER;
            if (isSo) {
                town.setEasterDay(numbers[0]);
            }
            return isSo;
        }
    }

    /** ACTS, one behind the other; of DIE and DAYS the first number alone counts. */
    private static final class Acts {
        private final int[] kinds = new int[MOST_ACTS];
        private final int[] firsts = new int[MOST_ACTS];
        private final int[] seconds = new int[MOST_ACTS];
        private int size;

        void clear() {
            size = 0;
        }

        void copyFrom(Acts other) {
            System.arraycopy(other.kinds, 0, kinds, 0, MOST_ACTS);
            System.arraycopy(other.firsts, 0, firsts, 0, MOST_ACTS);
            System.arraycopy(other.seconds, 0, seconds, 0, MOST_ACTS);
            size = other.size;
        }

        void add(int kind, int first, int second) {
            if (size < MOST_ACTS) {
                kinds[size] = kind;
                firsts[size] = first;
                seconds[size] = second;
                size++;
            }
        }

        void dropLatest() {
            if (size > 0) {
                size--;
            }
        }

        int size() {
            return size;
        }

        int kindAt(int k) {
            return kinds[k];
        }

        int firstAt(int k) {
            return firsts[k];
        }

        int secondAt(int k) {
            return seconds[k];
        }
    }

    /** PERSONS, what each owes whom, and the day; its callers name none but PERSONS that there are. */
    private static final class Town {
        private int persons;
        private int day;
        private int easterDay;
        private int aliveBits;
        private final int[] kinds = new int[ROOM];
        private final int[] streets = new int[ROOM];
        private final int[] debts = new int[ROOM * ROOM];
        /** How much each owes in all: kept, since whether one TAKES is asked most often. */
        private final int[] owing = new int[ROOM];

        void clear() {
            persons = 0;
            day = 0;
            easterDay = FIRST_EASTER;
            aliveBits = 0;
            Arrays.fill(debts, 0);
            Arrays.fill(owing, 0);
        }

        void copyFrom(Town other) {
            persons = other.persons;
            day = other.day;
            easterDay = other.easterDay;
            aliveBits = other.aliveBits;
            System.arraycopy(other.kinds, 0, kinds, 0, ROOM);
            System.arraycopy(other.streets, 0, streets, 0, ROOM);
            System.arraycopy(other.debts, 0, debts, 0, ROOM * ROOM);
            System.arraycopy(other.owing, 0, owing, 0, ROOM);
        }

        void addPerson(int kind, int street) {
            if (persons < ROOM) {
                kinds[persons] = kind;
                streets[persons] = street;
                aliveBits |= 1 << persons;
                persons++;
            }
        }

        void addStranger() {
            int newcomer = persons;
            addPerson(PLAIN, 0);
            for (int j = 0; j < newcomer; j++) {
                if (isAlive(j)) {
                    setDebt(newcomer, j, 1);
                }
            }
        }

        void setEasterDay(int newDay) {
            easterDay = newDay;
        }

        void setDebt(int i, int j, int amount) {
            int place = ROOM * i + j;
            owing[i] += amount - debts[place];
            debts[place] = amount;
        }

        int persons() {
            return persons;
        }

        int day() {
            return day;
        }

        int easterDay() {
            return easterDay;
        }

        int kindOf(int i) {
            return kinds[i];
        }

        int streetOf(int i) {
            return streets[i];
        }

        boolean isAlive(int i) {
            return (aliveBits >> i & 1) == 1;
        }

        int debt(int i, int j) {
            return debts[ROOM * i + j];
        }

        int owing(int i) {
            return owing[i];
        }

        int owedTo(int j) {
            int owed = 0;
            for (int i = 0; i < persons; i++) {
                owed += debt(i, j);
            }
            return owed;
        }

        int allOwed() {
            int owed = 0;
            for (int i = 0; i < persons; i++) {
                owed += owing[i];
            }
            return owed;
        }

        int aliveBits() {
            return aliveBits;
        }

        int stuckBits() {
            int bits = 0;
            for (int i = 0; i < persons; i++) {
                if (owing[i] > 0 || owedTo(i) > 0) {
                    bits |= 1 << i;
                }
            }
            return bits;
        }

        /** Of one who is alive: the dead are owed nothing, so none is ever asked there. */
        boolean takesApology(int i) {
            return kinds[i] == PRIEST || owing[i] == 0;
        }

        boolean maySpeak(int i, int j) {
            return i != j && isAlive(i) && isAlive(j) && debt(i, j) == 0 && debt(j, i) == 0;
        }

        boolean anySpeakIn(int streetBits) {
            for (int i = 0; i < persons; i++) {
                for (int j = i + 1; j < persons; j++) {
                    boolean isTold = (streetBits >> streets[i] & 1) == 1;
                    if (isTold && streets[i] == streets[j] && maySpeak(i, j)) {
                        return true;
                    }
                }
            }
            return false;
        }

        void linkSpeakers(Links links) {
            links.clear(persons);
            for (int i = 0; i < persons; i++) {
                for (int j = 0; j < persons; j++) {
                    if (maySpeak(i, j)) {
                        links.link(i, j);
                    }
                }
            }
        }

        void linkDebts(Links links) {
            links.clear(persons);
            for (int i = 0; i < persons; i++) {
                for (int j = 0; j < persons; j++) {
                    if (debt(i, j) > 0) {
                        links.link(i, j);
                    }
                }
            }
        }

        boolean canBeDone(int kind, int i, int j) {
            switch (kind) {
                case WRONG:
                    return i != j && isAlive(i) && isAlive(j) && debt(i, j) < MOST_OWED;
                case BOW:
                    return canBow(i, j);
                case REFUSE:
                    return canBow(i, j) && debt(i, j) < MOST_OWED;
                case AT_ONCE:
                    return canBowAtOnce(i, j);
                case DIE:
                    return isAlive(i);
                default:
                    return kind == DAYS;
            }
        }

        void perform(int kind, int i, int j) {
            switch (kind) {
                case WRONG:
                case REFUSE:
                    oweOneMore(i, j);
                    break;
                case BOW:
                    pay(i, j);
                    break;
                case AT_ONCE:
                    pay(i, j);
                    pay(j, i);
                    break;
                case DIE:
                    bury(i);
                    break;
                default:
                    passDays(i);
                    break;
            }
        }

        private boolean canBow(int i, int j) {
            return debt(i, j) > 0 && takesApology(j);
        }

        private boolean canBowAtOnce(int i, int j) {
            return debt(i, j) > 0 && debt(j, i) > 0
                    && owing[i] == debt(i, j) && owing[j] == debt(j, i);
        }

        /** Whether anything is paid by a BOW of i on this day. */
        private boolean paysToday(int i) {
            return kinds[i] != DRUNK || day % 2 == 0;
        }

        private void pay(int i, int j) {
            if (paysToday(i) && debt(i, j) > 0) {
                setDebt(i, j, kinds[i] == CHILD ? 0 : debt(i, j) - 1);
            }
        }

        private void oweOneMore(int i, int j) {
            setDebt(i, j, Math.min(MOST_OWED, debt(i, j) + 1));
        }

        private void bury(int i) {
            aliveBits &= ~(1 << i);
            for (int j = 0; j < persons; j++) {
                setDebt(i, j, 0);
                setDebt(j, i, 0);
            }
        }

        private void passDays(int n) {
            for (int k = 0; k < n; k++) {
                passDay();
            }
        }

        void passDay() {
            day++;
            if (day % WEEK != 0) {
                return;
            }
            for (int i = 0; i < persons; i++) {
                for (int j = 0; j < persons; j++) {
                    if (i != j && kinds[i] == PRIEST && isAlive(i) && isAlive(j)) {
                        oweOneMore(i, j);
                    }
                }
            }
        }

        /** Makes PEACE: how many BOWS there were. */
        int makePeace() {
            int bows = bowAllThatCanBe();
            for (int round = 0; round < MOST_OWED_IN_ALL; round++) {
                if (!firstTwoBowAtOnce()) {
                    break;
                }
                bows += 1 + bowAllThatCanBe();
            }
            return bows;
        }

        /**
         * No BOW ever hinders another one, so their order changes neither how many there are nor
         * what is left; each debt that can be paid at all is paid whole, sweep by sweep.
         */
        private int bowAllThatCanBe() {
            int bows = 0;
            int bowsBefore = NOTHING;
            for (int sweep = 0; sweep < MOST_OWED_IN_ALL && bows != bowsBefore; sweep++) {
                bowsBefore = bows;
                for (int i = 0; i < persons; i++) {
                    for (int j = 0; j < persons && owing[i] > 0; j++) {
                        if (canBow(i, j) && paysToday(i)) {
                            bows += kinds[i] == CHILD ? 1 : debt(i, j);
                            setDebt(i, j, 0);
                        }
                    }
                }
            }
            return bows;
        }

        private boolean firstTwoBowAtOnce() {
            for (int i = 0; i < persons; i++) {
                for (int j = i + 1; j < persons; j++) {
                    if (canBowAtOnce(i, j) && (paysToday(i) || paysToday(j))) {
                        pay(i, j);
                        pay(j, i);
                        return true;
                    }
                }
            }
            return false;
        }
    }

    /** Who is linked to whom, a row of bits for each PERSON. */
    private static final class Links {
        private static final int SETS = 1 << MOST_PERSONS;

        private final int[] rows = new int[MOST_PERSONS];
        private final int[] twosWithin = new int[SETS];
        private int persons;

        void clear(int newPersons) {
            persons = Math.min(newPersons, MOST_PERSONS);
            Arrays.fill(rows, 0);
        }

        void link(int i, int j) {
            if (i < persons && j < persons) {
                rows[i] |= 1 << j;
            }
        }

        boolean areLinked(int i, int j) {
            return (rows[i] >> j & 1) == 1;
        }

        int linkedTo(int i) {
            return rows[i];
        }

        /** The fewest links from one to another one; NONE. */
        int steps(int from, int to) {
            int reached = 1 << from;
            for (int step = 0; step < persons; step++) {
                if ((reached >> to & 1) == 1) {
                    return step;
                }
                reached |= linkedToAny(reached);
            }
            return NONE;
        }

        private int linkedToAny(int set) {
            int bits = 0;
            for (int i = 0; i < persons; i++) {
                if ((set >> i & 1) == 1) {
                    bits |= rows[i];
                }
            }
            return bits;
        }

        /** Of sets in which all are linked that of most, of several the lowest. */
        int largestSet(int within) {
            int best = 0;
            for (int set = 1; set < 1 << persons; set++) {
                boolean isWithin = (set & ~within) == 0;
                if (isWithin && Integer.bitCount(set) > Integer.bitCount(best) && areAllLinked(set)) {
                    best = set;
                }
            }
            return best;
        }

        private boolean areAllLinked(int set) {
            for (int i = 0; i < persons; i++) {
                int others = set & ~(1 << i);
                if (others != set && (others & ~rows[i]) != 0) {
                    return false;
                }
            }
            return true;
        }

        /** How many linked twos there can be, nobody in two of them: from smaller sets to larger ones. */
        int mostTwos() {
            twosWithin[0] = 0;
            int sets = 1 << persons;
            for (int set = 1; set < sets; set++) {
                twosWithin[set] = mostTwosWithin(set);
            }
            return twosWithin[sets - 1];
        }

        /** The lowest one stands alone, or in a two with one of the others. */
        private int mostTwosWithin(int set) {
            int i = Integer.bitCount((set & -set) - 1);
            int others = set & ~(1 << i);
            int most = twosWithin[others];
            for (int j = i + 1; j < persons; j++) {
                if ((others & rows[i] & 1 << j) != 0) {
                    most = Math.max(most, 1 + twosWithin[others & ~(1 << j)]);
                }
            }
            return most;
        }
    }
}
