import java.util.ArrayList;
import java.util.List;
import java.util.Random;
import java.util.regex.Matcher;
import java.util.regex.Pattern;

/**
 * Runs of drawn calls, answered by the class and by a slow model written straight from the document:
 * every BOW of PEACE is a step of its own there, UNDONE goes back to a kept picture, rings and twos are tried out.
 */
public final class ModelTests {
    private static final int BAD = -1, NO = -2, FULL = -3, NONE = -4;
    private static final int CALLS = 512;
    private static final int RUNS = 1500;
    private static final String[] NAMES = {
        "write", "wipe", "fault", "lay", "person", "owes", "speak", "wrong", "bow", "refuse", "atOnce", "die",
        "days", "undo", "peace", "ring", "forgiven", "mustNot", "began", "word", "vote", "deals", "guests",
        "court", "stranger", "easter", "silent", "forget", "fits", "year", "keep", "back", "count"};
    private static final int[] ODD_NUMBERS = {
        Integer.MIN_VALUE, Integer.MAX_VALUE, -1, -2, 7, 8, 9, 10, 31, 32, 33, 64, 127, 1 << 16, -1000};

    private static int wrong = 0;

    public static void main(String[] args) {
        int[] asked = new int[NAMES.length];
        for (int seed = 0; seed < RUNS && wrong < 20; seed++) {
            run(seed, asked);
        }
        for (int k = 0; k < NAMES.length; k++) {
            if (asked[k] < RUNS) {
                wrong++;
                System.out.println(NAMES[k] + " was asked only " + asked[k] + " times");
            }
        }
        System.out.println(wrong == 0 ? "the model agrees" : wrong + " answers are not the model's");
        if (wrong != 0) {
            System.exit(1);
        }
    }

    private static void run(int seed, int[] asked) {
        Random random = new Random(seed);
        LadderOfBows x = new LadderOfBows();
        Model m = new Model();
        int calls = 0;
        int texts = random.nextInt(3);
        int nextText = 0;
        while (calls < CALLS) {
            if (texts > 0 && calls >= nextText) {
                String text = drawnText(random);
                for (int k = 0; k < text.length() && calls < CALLS - 3; k++, calls++) {
                    compare(seed, calls, 0, new int[] {text.charAt(k)}, x, m);
                }
                compare(seed, calls++, 2, new int[] {}, x, m);
                compare(seed, calls++, 3, new int[] {}, x, m);
                compare(seed, calls++, 1, new int[] {}, x, m);
                texts--;
                nextText = calls + 60 + random.nextInt(100);
            }
            int call = drawnCall(random);
            int[] numbers = drawnNumbers(random, call, m);
            asked[call]++;
            compare(seed, calls++, call, numbers, x, m);
        }
    }

    private static void compare(int seed, int at, int call, int[] a, LadderOfBows x, Model m) {
        int want = ask(call, a, m);
        String told = "";
        int got = 0;
        try {
            got = ask(call, a, x);
        } catch (RuntimeException thrown) {
            told = ", threw " + thrown;
        }
        if (got != want || !told.isEmpty()) {
            wrong++;
            System.out.println("seed " + seed + ", call " + at + ": " + NAMES[call] + java.util.Arrays.toString(a)
                    + " answered " + got + told + ", the model " + want);
        }
    }

    private static int drawnCall(Random random) {
        int r = random.nextInt(100);
        if (r < 45) {
            return 7 + random.nextInt(6);
        }
        return random.nextInt(NAMES.length);
    }

    private static int[] drawnNumbers(Random random, int call, Model m) {
        int persons = m.now.n;
        int i = number(random, persons), j = number(random, persons);
        switch (NAMES[call]) {
            case "write": return new int[] {random.nextInt(30) + (random.nextBoolean() ? 20 : 105)};
            case "person": return new int[] {i, number(random, 6)};
            case "owes": case "speak": case "wrong": case "bow": case "refuse": case "atOnce": case "word": case "guests":
                return new int[] {i, j};
            case "die": return new int[] {random.nextInt(6) == 0 ? i : -1};
            case "mustNot": return new int[] {i};
            case "days": return new int[] {random.nextInt(3) == 0 ? number(random, 11) : 1 + random.nextInt(2)};
            case "ring": return new int[] {i, number(random, 2)};
            case "peace": return new int[] {number(random, 3)};
            case "forgiven": case "stranger": case "fits": return new int[] {number(random, 2)};
            case "court": return new int[] {number(random, 3), number(random, 2)};
            case "silent": return new int[] {number(random, 4)};
            case "year": return new int[] {number(random, 10000), number(random, 61), number(random, 2)};
            case "count": return new int[] {number(random, 8)};
            default: return new int[] {};
        }
    }

    private static int number(Random random, int below) {
        if (random.nextInt(25) == 0) {
            return random.nextBoolean() ? below : ODD_NUMBERS[random.nextInt(ODD_NUMBERS.length)];
        }
        return random.nextInt(below);
    }

    private static String drawnText(Random random) {
        StringBuilder text = new StringBuilder();
        int persons = 1 + random.nextInt(random.nextInt(8) == 0 ? 8 : 7);
        int kindsDrawn = random.nextInt(4);
        for (int i = 0; i < persons; i++) {
            int kind = kindsDrawn == 0 ? 0 : random.nextInt(kindsDrawn + 1);
            text.append('p').append(kind).append(',').append(random.nextInt(4)).append(';');
        }
        int debts = random.nextInt(16);
        for (int k = 0; k < debts && persons > 1; k++) {
            int i = random.nextInt(persons);
            int j = (i + 1 + random.nextInt(persons - 1)) % persons;
            text.append('o').append(i).append(',').append(j).append(',');
            if (random.nextInt(10) == 0) {
                text.append('0');
            }
            text.append(random.nextInt(10)).append(';');
        }
        if (random.nextBoolean()) {
            text.append('e').append(1 + random.nextInt(random.nextInt(10) == 0 ? 99 : 60)).append(';');
        }
        if (random.nextInt(4) == 0) {
            String odd = "poe,;0123456789 x";
            int at = random.nextInt(text.length());
            char letter = odd.charAt(random.nextInt(odd.length()));
            switch (random.nextInt(3)) {
                case 0: text.insert(at, letter); break;
                case 1: text.setCharAt(at, letter); break;
                default: text.deleteCharAt(at); break;
            }
        }
        return text.toString();
    }

    private static int ask(int call, int[] a, LadderOfBows x) {
        switch (NAMES[call]) {
            case "write": return x.write(a[0]);
            case "wipe": return x.wipe();
            case "fault": return x.fault();
            case "lay": return x.lay();
            case "person": return x.person(a[0], a[1]);
            case "owes": return x.owes(a[0], a[1]);
            case "speak": return x.speak(a[0], a[1]);
            case "wrong": return x.wrong(a[0], a[1]);
            case "bow": return x.bow(a[0], a[1]);
            case "refuse": return x.refuse(a[0], a[1]);
            case "atOnce": return x.atOnce(a[0], a[1]);
            case "die": return x.die(a[0]);
            case "days": return x.days(a[0]);
            case "undo": return x.undo();
            case "peace": return x.peace(a[0]);
            case "ring": return x.ring(a[0], a[1]);
            case "forgiven": return x.forgiven(a[0]);
            case "mustNot": return x.mustNot(a[0]);
            case "began": return x.began();
            case "word": return x.word(a[0], a[1]);
            case "vote": return x.vote();
            case "deals": return x.deals();
            case "guests": return x.guests(a[0], a[1]);
            case "court": return x.court(a[0], a[1]);
            case "stranger": return x.stranger(a[0]);
            case "easter": return x.easter();
            case "silent": return x.silent(a[0]);
            case "forget": return x.forget();
            case "fits": return x.fits(a[0]);
            case "year": return x.year(a[0], a[1], a[2]);
            case "keep": return x.keep();
            case "back": return x.back();
            default: return x.count(a[0]);
        }
    }

    private static int ask(int call, int[] a, Model m) {
        switch (NAMES[call]) {
            case "write": return m.write(a[0]);
            case "wipe": return m.wipe();
            case "fault": return m.parse(new State());
            case "lay": return m.lay();
            case "person": return m.person(a[0], a[1]);
            case "owes": return m.two(a[0], a[1]) ? m.now.o[a[0]][a[1]] : BAD;
            case "speak": return m.two(a[0], a[1]) ? (m.now.speak(a[0], a[1]) ? 1 : 0) : BAD;
            case "wrong": case "bow": case "refuse": case "atOnce": return m.twoAct(NAMES[call], a[0], a[1]);
            case "die": return m.die(a[0]);
            case "days": return m.days(a[0]);
            case "undo": return m.undo();
            case "peace": return m.peace(a[0]);
            case "ring": return m.ring(a[0], a[1]);
            case "forgiven": return m.forgiven(a[0]);
            case "mustNot": return m.mustNot(a[0]);
            case "began": return m.began();
            case "word": return m.word(a[0], a[1]);
            case "vote": return m.vote();
            case "deals": return m.deals(0, 0);
            case "guests": return m.guests(a[0], a[1]);
            case "court": return m.court(a[0], a[1]);
            case "stranger": return m.stranger(a[0]);
            case "easter": return m.easter();
            case "silent": return m.silent(a[0]);
            case "forget": return m.forget();
            case "fits": return m.fits(a[0]);
            case "year": return m.year(a[0], a[1], a[2]);
            case "keep": return m.keep();
            case "back": return m.back();
            default: return m.count(a[0]);
        }
    }

    /** A town at one moment. */
    private static final class State {
        int n, day, easter = 40;
        int[] kind = new int[8], street = new int[8];
        boolean[] alive = new boolean[8];
        int[][] o = new int[8][8];

        State copy() {
            State s = new State();
            s.n = n;
            s.day = day;
            s.easter = easter;
            s.kind = kind.clone();
            s.street = street.clone();
            s.alive = alive.clone();
            for (int i = 0; i < 8; i++) {
                s.o[i] = o[i].clone();
            }
            return s;
        }

        int owing(int i) {
            int sum = 0;
            for (int v : o[i]) {
                sum += v;
            }
            return sum;
        }

        int owed(int j) {
            int sum = 0;
            for (int[] row : o) {
                sum += row[j];
            }
            return sum;
        }

        int all() {
            int sum = 0;
            for (int i = 0; i < 8; i++) {
                sum += owing(i);
            }
            return sum;
        }

        boolean takes(int i) {
            return alive[i] && (kind[i] == 1 || owing(i) == 0);
        }

        boolean speak(int i, int j) {
            return i != j && alive[i] && alive[j] && o[i][j] + o[j][i] == 0;
        }

        int payment(int i, int j) {
            if (kind[i] == 2) {
                return o[i][j];
            }
            return kind[i] == 3 && day % 2 == 1 ? 0 : 1;
        }

        boolean can(String act, int i, int j) {
            switch (act) {
                case "wrong": return i != j && alive[i] && alive[j] && o[i][j] != 9;
                case "bow": return i != j && o[i][j] != 0 && takes(j);
                case "refuse": return can("bow", i, j) && o[i][j] != 9;
                case "atOnce": return i != j && o[i][j] != 0 && o[j][i] != 0 && owing(i) - o[i][j] == 0 && owing(j) - o[j][i] == 0;
                case "die": return alive[i];
                default: return true;
            }
        }

        void make(String act, int i, int j) {
            switch (act) {
                case "wrong": case "refuse": o[i][j]++; break;
                case "bow": o[i][j] -= payment(i, j); break;
                case "atOnce": o[i][j] -= payment(i, j); o[j][i] -= payment(j, i); break;
                case "die":
                    alive[i] = false;
                    for (int k = 0; k < 8; k++) {
                        o[i][k] = 0;
                        o[k][i] = 0;
                    }
                    break;
                default:
                    for (int k = 0; k < i; k++) {
                        nextDay();
                    }
            }
        }

        void nextDay() {
            day++;
            for (int i = 0; i < n; i++) {
                for (int j = 0; j < n; j++) {
                    if (day % 7 == 0 && kind[i] == 1 && alive[i] && alive[j] && i != j && o[i][j] < 9) {
                        o[i][j]++;
                    }
                }
            }
        }

        int peace() {
            int steps = 0;
            while (peaceStep("bow") || peaceStep("atOnce")) {
                steps++;
            }
            return steps;
        }

        boolean peaceStep(String act) {
            for (int i = 0; i < n; i++) {
                for (int j = act.equals("bow") ? 0 : i + 1; j < n; j++) {
                    if (can(act, i, j)) {
                        State then = copy();
                        then.make(act, i, j);
                        if (then.all() < all()) {
                            o = then.o;
                            return true;
                        }
                    }
                }
            }
            return false;
        }

        int owedBehindPeace() {
            State s = copy();
            s.peace();
            return s.all();
        }
    }

    private static final class Act {
        final String act;
        final int i, j;

        Act(String act, int i, int j) {
            this.act = act;
            this.i = i;
            this.j = j;
        }
    }

    /** The class, as the document tells it. */
    private static final class Model {
        static final Pattern ITEM = Pattern.compile("(?:p(\\d\\d?),(\\d\\d?)|o(\\d\\d?),(\\d\\d?),(\\d\\d?)|e(\\d\\d?));");
        String text = "p0,0;p0,1;p1,0;p2,1;p3,0;o0,1,1;o1,2,2;o2,0,1;o3,4,3;o4,3,1;";
        State start, now;
        List<Act> acts = new ArrayList<>();
        List<State> before = new ArrayList<>();
        List<List<Act>> keptActs = new ArrayList<>();
        List<List<State>> keptBefore = new ArrayList<>();
        List<State> keptNow = new ArrayList<>();
        List<Integer> silent = new ArrayList<>();

        Model() {
            lay();
            text = "";
        }

        int write(int letter) {
            if (letter < 32 || letter > 126) {
                return BAD;
            }
            if (text.length() == 200) {
                return FULL;
            }
            text += (char) letter;
            return text.length();
        }

        int wipe() {
            int length = text.length();
            text = "";
            return length;
        }

        int parse(State s) {
            Matcher m = ITEM.matcher(text);
            int place = 0;
            while (place < text.length()) {
                m.region(place, text.length());
                if (!m.lookingAt() || !take(m, s)) {
                    return place;
                }
                place = m.end();
            }
            return NONE;
        }

        boolean take(Matcher m, State s) {
            if (m.group(1) != null) {
                int k = Integer.parseInt(m.group(1)), street = Integer.parseInt(m.group(2));
                if (k > 3 || street > 3 || s.n == 7) {
                    return false;
                }
                s.kind[s.n] = k;
                s.street[s.n] = street;
                s.alive[s.n++] = true;
                return true;
            }
            if (m.group(3) != null) {
                int i = Integer.parseInt(m.group(3)), j = Integer.parseInt(m.group(4)), v = Integer.parseInt(m.group(5));
                if (i >= s.n || j >= s.n || i == j || v > 9) {
                    return false;
                }
                s.o[i][j] = v;
                return true;
            }
            s.easter = Integer.parseInt(m.group(6));
            return s.easter >= 1 && s.easter <= 60;
        }

        int lay() {
            State s = new State();
            if (parse(s) != NONE || s.n == 0) {
                return NO;
            }
            start = s;
            now = s.copy();
            acts.clear();
            before.clear();
            keptActs.clear();
            keptBefore.clear();
            keptNow.clear();
            silent.clear();
            return s.n;
        }

        boolean one(int i) {
            return i >= 0 && i < now.n;
        }

        boolean two(int i, int j) {
            return one(i) && one(j) && i != j;
        }

        int person(int i, int what) {
            if (!one(i) || what < 0 || what > 5) {
                return BAD;
            }
            int[] told = {now.kind[i], now.street[i], now.alive[i] ? 1 : 0, now.owing(i), now.owed(i), now.takes(i) ? 1 : 0};
            return told[what];
        }

        int act(String act, int i, int j) {
            if (!now.can(act, i, j)) {
                return NO;
            }
            if (acts.size() == 40) {
                return FULL;
            }
            before.add(now.copy());
            acts.add(new Act(act, i, j));
            now.make(act, i, j);
            return 0;
        }

        int twoAct(String act, int i, int j) {
            if (!two(i, j)) {
                return BAD;
            }
            int answer = act(act, i, j);
            if (answer < 0) {
                return answer;
            }
            return act.equals("atOnce") ? now.owing(i) + now.owing(j) : now.o[i][j];
        }

        int alive() {
            int sum = 0;
            for (int i = 0; i < now.n; i++) {
                sum += now.alive[i] ? 1 : 0;
            }
            return sum;
        }

        int die(int i) {
            if (!one(i)) {
                return BAD;
            }
            int answer = act("die", i, 0);
            return answer < 0 ? answer : alive();
        }

        int days(int n) {
            if (n < 1 || n > 9) {
                return BAD;
            }
            int answer = act("days", n, 0);
            return answer < 0 ? answer : now.day;
        }

        int undo() {
            if (acts.isEmpty()) {
                return NO;
            }
            acts.remove(acts.size() - 1);
            now = before.remove(before.size() - 1).copy();
            return acts.size();
        }

        int peace(int what) {
            if (what < 0 || what > 2) {
                return BAD;
            }
            State s = now.copy();
            int steps = s.peace();
            int bits = 0;
            for (int i = 0; i < s.n; i++) {
                bits |= s.owing(i) + s.owed(i) > 0 ? 1 << i : 0;
            }
            return new int[] {steps, s.all(), bits}[what];
        }

        int ring(int i, int what) {
            if (!one(i) || what < 0 || what > 1) {
                return BAD;
            }
            int best = 99, second = NONE;
            for (int j = 0; j < now.n; j++) {
                if (now.o[i][j] > 0) {
                    int length = 1 + home(j, i, 1 << i);
                    if (length < best) {
                        best = length;
                        second = j;
                    }
                }
            }
            return best >= 50 ? NONE : what == 0 ? best : second;
        }

        int home(int at, int i, int used) {
            if (at == i) {
                return 0;
            }
            int best = 90;
            for (int j = 0; j < now.n; j++) {
                if (now.o[at][j] > 0 && (j == i || (used >> j & 1) == 0)) {
                    best = Math.min(best, 1 + home(j, i, used | 1 << at));
                }
            }
            return best;
        }

        int forgiven(int what) {
            if (what < 0 || what > 1) {
                return BAD;
            }
            int least = 10000, two = NONE;
            for (int p = 0; p < 64; p++) {
                if (now.o[p / 8][p % 8] > 0) {
                    State s = now.copy();
                    s.o[p / 8][p % 8] = 0;
                    s.peace();
                    if (s.all() < least) {
                        least = s.all();
                        two = p;
                    }
                }
            }
            return two == NONE ? NONE : what == 0 ? two : least;
        }

        int mustNot(int i) {
            if (!one(i)) {
                return BAD;
            }
            if (!now.alive[i]) {
                return NO;
            }
            int bits = 0;
            for (int j = 0; j < now.n; j++) {
                if (j != i && now.alive[j] && now.o[i][j] < 9) {
                    State s = now.copy();
                    s.o[i][j]++;
                    bits |= s.owedBehindPeace() > now.owedBehindPeace() ? 1 << j : 0;
                }
            }
            return bits;
        }

        int began() {
            for (int k = 0; k < acts.size(); k++) {
                State s = start.copy();
                List<Act> others = new ArrayList<>(acts);
                others.remove(k);
                for (Act a : others) {
                    if (s.can(a.act, a.i, a.j)) {
                        s.make(a.act, a.i, a.j);
                    }
                }
                if (s.owedBehindPeace() < now.owedBehindPeace()) {
                    return k;
                }
            }
            return NONE;
        }

        int word(int i, int j) {
            if (!one(i) || !one(j)) {
                return BAD;
            }
            int[][] d = new int[7][7];
            for (int a = 0; a < now.n; a++) {
                for (int b = 0; b < now.n; b++) {
                    d[a][b] = a == b && now.alive[a] ? 0 : now.speak(a, b) ? 1 : 100;
                }
            }
            for (int c = 0; c < now.n; c++) {
                for (int a = 0; a < now.n; a++) {
                    for (int b = 0; b < now.n; b++) {
                        d[a][b] = Math.min(d[a][b], d[a][c] + d[c][b]);
                    }
                }
            }
            return d[i][j] >= 100 ? NONE : d[i][j];
        }

        int vote() {
            int best = 0;
            for (int set = (1 << now.n) - 1; set >= 0; set--) {
                boolean fine = true;
                for (int i = 0; i < now.n; i++) {
                    for (int j = 0; j < now.n; j++) {
                        boolean in = (set >> i & 1) == 1 && (set >> j & 1) == 1;
                        fine &= !in || (i == j ? now.alive[i] : now.speak(i, j));
                    }
                }
                if (fine && Integer.bitCount(set) >= Integer.bitCount(best)) {
                    best = set;
                }
            }
            return best;
        }

        int deals(int from, int used) {
            int best = 0;
            for (int p = from; p < 64; p++) {
                int i = p / 8, j = p % 8;
                if (i < j && now.speak(i, j) && (used & (1 << i | 1 << j)) == 0) {
                    best = Math.max(best, 1 + deals(p + 1, used | 1 << i | 1 << j));
                }
            }
            return best;
        }

        int guests(int i, int j) {
            if (!two(i, j)) {
                return BAD;
            }
            if (!now.alive[i] || !now.alive[j]) {
                return NO;
            }
            int bits = 0;
            for (int k = 0; k < now.n; k++) {
                bits |= now.speak(k, i) && now.speak(k, j) ? 1 << k : 0;
            }
            return bits;
        }

        int court(int n, int part) {
            if (n < 0 || n > 2 || part < 0 || part > 1) {
                return BAD;
            }
            int good = 0, all = 0;
            for (int p = 0; p < (n > 0 ? 64 : 1); p++) {
                for (int q = 0; q < (n > 1 ? 64 : 1); q++) {
                    State s = now.copy();
                    boolean drawn = (n < 1 || s.o[p / 8][p % 8] > 0) && (n < 2 || s.o[q / 8][q % 8] > 0 && p != q);
                    if (n > 0) {
                        s.o[p / 8][p % 8] = 0;
                    }
                    if (n > 1) {
                        s.o[q / 8][q % 8] = 0;
                    }
                    if (drawn) {
                        all++;
                        good += s.owedBehindPeace() == 0 ? 1 : 0;
                    }
                }
            }
            if (all == 0) {
                return NONE;
            }
            for (int d = all; d > 1; d--) {
                if (good % d == 0 && all % d == 0) {
                    good /= d;
                    all /= d;
                }
            }
            return part == 0 ? good : all;
        }

        int stranger(int what) {
            if (what < 0 || what > 1) {
                return BAD;
            }
            if (now.n == 7) {
                return FULL;
            }
            State without = now.copy();
            State with = now.copy();
            with.n++;
            with.alive[now.n] = true;
            with.kind[now.n] = 0;
            for (int j = 0; j < now.n; j++) {
                with.o[now.n][j] = now.alive[j] ? 1 : 0;
            }
            int more = with.peace() - without.peace();
            return 100 + (what == 0 ? more : with.all() - without.all());
        }

        int easter() {
            State s = now.copy();
            while (s.day <= s.easter) {
                s.peace();
                if (s.all() == 0) {
                    return s.day;
                }
                s.nextDay();
            }
            return NONE;
        }

        int silent(int street) {
            if (street < 0 || street > 3) {
                return BAD;
            }
            if (silent.size() == 6) {
                return FULL;
            }
            silent.add(street);
            return silent.size();
        }

        int forget() {
            int size = silent.size();
            silent.clear();
            return size;
        }

        int fits(int what) {
            if (what < 0 || what > 1) {
                return BAD;
            }
            List<Integer> found = new ArrayList<>();
            for (int p = 0; p < 64; p++) {
                int i = p / 8, j = p % 8;
                if (i < now.n && j < now.n && now.can("wrong", i, j)) {
                    State s = now.copy();
                    s.make("wrong", i, j);
                    boolean fine = true;
                    for (int street : silent) {
                        for (int q = 0; q < 64; q++) {
                            int a = q / 8, b = q % 8;
                            fine &= !(a < s.n && b < s.n && s.street[a] == street && s.street[b] == street && s.speak(a, b));
                        }
                    }
                    if (fine) {
                        found.add(p);
                    }
                }
            }
            return what == 0 ? found.size() : found.isEmpty() ? NONE : found.get(0);
        }

        int year(int z, int n, int what) {
            if (z < 0 || z > 9999 || n < 1 || n > 60 || what < 0 || what > 1) {
                return BAD;
            }
            State s = now.copy();
            int bows = 0;
            for (int k = 0; k < n; k++) {
                long x = 7919L * z + 6151L * k + 1;
                long draw = x * x % 65521;
                int i = (int) (draw % s.n), j = (int) (draw / 8 % s.n), way = (int) (draw / 64 % 4);
                if (way == 1) {
                    s.nextDay();
                } else if (way == 0) {
                    if (s.can("wrong", i, j)) {
                        s.make("wrong", i, j);
                    }
                } else if (s.can("bow", i, j)) {
                    s.make("bow", i, j);
                    bows++;
                }
            }
            return what == 0 ? s.all() : bows;
        }

        int keep() {
            if (keptNow.size() == 2) {
                return FULL;
            }
            keptActs.add(new ArrayList<>(acts));
            keptBefore.add(new ArrayList<>(before));
            keptNow.add(now.copy());
            return keptNow.size();
        }

        int back() {
            if (keptNow.isEmpty()) {
                return NO;
            }
            int last = keptNow.size() - 1;
            acts = keptActs.remove(last);
            before = keptBefore.remove(last);
            now = keptNow.remove(last);
            return last;
        }

        int count(int what) {
            if (what < 0 || what > 7) {
                return BAD;
            }
            return new int[] {now.n, alive(), now.day, now.all(), acts.size(), silent.size(), keptNow.size(), text.length()}[what];
        }
    }
}
