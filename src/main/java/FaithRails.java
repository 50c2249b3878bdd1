import java.util.Arrays;

/**
 * A railway by belief: the rails are there as far as those aboard and those who wait believe that
 * they are. Every act answers a number; the numbers below -1000000 are findings (but for the state
 * of the draws, which may be any number).
 */
public final class FaithRails {
    private static final int BEYOND = -1000001;
    private static final int FULL = BEYOND - 1;
    private static final int KIND = BEYOND - 2;
    private static final int NONE = BEYOND - 3;
    private static final int STATE = BEYOND - 4;
    private static final int MISSING = BEYOND - 5;
    private static final int SIZE = BEYOND - 6;
    private static final int FINDINGS = 7;

    private static final int STRETCHES = 16;
    private static final int LAST_YARD = 16;
    private static final int ABOARD = -1;
    private static final int MOST_PEOPLE = 8;
    private static final int MOST_NEED = 999;
    /** Far above every SUM: eight people bring less than two hundred each. */
    private static final int NEED_NEVER_MET = 1000000;
    private static final int MOST_BELIEF = 99;
    private static final int MOST_SHIFT = 20;
    private static final int MOST_HOURS = 99999;
    private static final int MOST_FALLS = 99999;
    private static final int FALLS_THAT_COUNT = 30;
    private static final int FARTHEST_LOOK = 100;
    private static final int LONGEST_RIDE = 60;
    private static final int MOST_GOLD_DRAWS = 20;
    private static final int MOST_ODDS_DRAWS = 14;
    private static final int NEED_LOST_TO_GOLD = 10;

    private static final int RIDER = 0;
    private static final int DOUBTER = 1;
    private static final int PROPHET = 2;
    private static final int BANKER = 3;
    private static final int SELLER = 4;
    private static final int CHILD = 5;
    private static final int SCEPTIC = 6;
    private static final int KINDS = 7;
    /** The kind that each kind stands under; -1 above the rider. */
    private static final int[] KIND_ABOVE = {-1, RIDER, RIDER, PROPHET, BANKER, RIDER, DOUBTER};

    private static final int MOST_BYTES = 120;
    private static final int SPOTS = 10;
    private static final int NOTHING = -1;
    private static final int SHEETS = 4;
    private static final int MOST_NUMBERS = 40;
    private static final int ANY_YARD = -1;

    private final Prairie line = new Prairie();
    /** What would be is tried here, so that the line itself stays as it is. */
    private final Prairie trial = new Prairie();
    private final Prairie kept = new Prairie();
    private boolean keeps = false;
    private final Tape tape = new Tape();
    private final Sheet[] sheets = new Sheet[SHEETS];
    /** What each of the people brings to each stretch: a row of people for each stretch. */
    private final int[] brought = new int[STRETCHES * MOST_PEOPLE];
    private final int[] findings = new int[FINDINGS];

    public FaithRails() {
        for (int s = 0; s < SHEETS; s++) {
            sheets[s] = new Sheet();
        }
    }

    // ---- the line, people

    public int need(int stretch, int v) {
        if (!isStretch(stretch) || !isWithin(v, 0, MOST_NEED)) {
            return finding(BEYOND);
        }
        int was = line.needs[stretch];
        line.needs[stretch] = v;
        return was;
    }

    public int stretch(int stretch, int what) {
        if (!isStretch(stretch)) {
            return finding(BEYOND);
        }
        switch (what) {
            case 0: return line.needs[stretch];
            case 1: return line.sumAt(stretch);
            case 2: return line.isThere(stretch) ? 1 : 0;
            default: return finding(BEYOND);
        }
    }

    public int person(int kind, int where) {
        if (!isKind(kind) || !isWithin(where, ABOARD, LAST_YARD)) {
            return finding(BEYOND);
        }
        if (line.people >= MOST_PEOPLE) {
            return finding(FULL);
        }
        return line.newcomer(kind, where, Prairie.FIRST_BELIEF);
    }

    public int of(int person, int what) {
        if (!isPerson(person)) {
            return finding(BEYOND);
        }
        switch (what) {
            case 0: return line.kindOf[person];
            case 1: return line.whereOf[person];
            case 2: return line.beliefOf[person];
            case 3: return line.faith(person);
            default: return finding(BEYOND);
        }
    }

    public int change(int person, int what, int v) {
        if (!isPerson(person)) {
            return finding(BEYOND);
        }
        int was;
        if (what == 0 && isKind(v)) {
            was = line.kindOf[person];
            line.kindOf[person] = v;
        } else if (what == 1 && isWithin(v, ABOARD, LAST_YARD)) {
            was = line.whereOf[person];
            line.whereOf[person] = v;
        } else if (what == 2 && isWithin(v, 0, MOST_BELIEF)) {
            was = line.beliefOf[person];
            line.beliefOf[person] = v;
        } else {
            was = finding(BEYOND);
        }
        return was;
    }

    public int set(int what, int v) {
        int was;
        if (what == 0 && isYard(v)) {
            was = line.train;
            line.train = v;
        } else if (what == 1 && isWithin(v, 0, 1)) {
            was = line.night;
            line.night = v;
        } else if (what == 2 && isWithin(v, 0, MOST_SHIFT)) {
            was = line.gain;
            line.gain = v;
        } else if (what == 3 && isWithin(v, 0, MOST_SHIFT)) {
            was = line.loss;
            line.loss = v;
        } else {
            was = finding(BEYOND);
        }
        return was;
    }

    public int board(int person) {
        if (!isPerson(person)) {
            return finding(BEYOND);
        }
        if (line.whereOf[person] != line.train) {
            return finding(STATE);
        }
        line.whereOf[person] = ABOARD;
        return 1;
    }

    public int leave(int person) {
        if (!isPerson(person)) {
            return finding(BEYOND);
        }
        if (line.whereOf[person] != ABOARD) {
            return finding(STATE);
        }
        line.whereOf[person] = line.train;
        return line.train;
    }

    // ---- hours

    public int go(int n) {
        if (!isWithin(n, 1, LONGEST_RIDE)) {
            return finding(BEYOND);
        }
        if (line.hours + n > MOST_HOURS) {
            return finding(STATE);
        }
        line.passHours(n);
        return line.train;
    }

    public int now(int what) {
        switch (what) {
            case 0: return line.hours;
            case 1: return line.train;
            case 2: return line.aboardSet();
            case 3: return line.thereSet();
            case 4: return line.fallen;
            case 5: return line.night;
            case 6: return line.beliefOfAll();
            default: return finding(BEYOND);
        }
    }

    // ---- what will be (nothing changes)

    public int ahead(int n) {
        if (!isWithin(n, 0, FARTHEST_LOOK)) {
            return finding(BEYOND);
        }
        trial.becomes(line);
        return trial.yardBehind(n);
    }

    public int believes(int person, int n) {
        if (!isPerson(person) || !isWithin(n, 0, FARTHEST_LOOK)) {
            return finding(BEYOND);
        }
        trial.becomes(line);
        trial.passHours(n);
        return trial.beliefOf[person];
    }

    public int when(int yard) {
        if (!isYard(yard)) {
            return finding(BEYOND);
        }
        trial.becomes(line);
        for (int hour = 0; hour <= FARTHEST_LOOK; hour++) {
            if (trial.train == yard) {
                return hour;
            }
            trial.passHour();
        }
        return finding(NONE);
    }

    public int falls() {
        trial.becomes(line);
        for (int hour = 0; hour <= FARTHEST_LOOK; hour++) {
            if (trial.train < LAST_YARD && !trial.isThere(trial.train)) {
                return hour;
            }
            trial.passHour();
        }
        return finding(NONE);
    }

    public int settles() {
        trial.becomes(line);
        for (int hour = 0; hour <= FARTHEST_LOOK; hour++) {
            boolean moves = trial.passHour();
            if (!moves) {
                return hour;
            }
        }
        return finding(NONE);
    }

    public int there(int n) {
        if (!isWithin(n, 0, FARTHEST_LOOK)) {
            return finding(BEYOND);
        }
        trial.becomes(line);
        trial.passHours(n);
        return trial.thereSet();
    }

    public int kindFor(int person, int n) {
        if (!isPerson(person) || !isRide(n)) {
            return finding(BEYOND);
        }
        int best = 0;
        int bestYard = -1;
        for (int kind = 0; kind < KINDS; kind++) {
            trial.becomes(line);
            trial.kindOf[person] = kind;
            int yard = trial.yardBehind(n);
            if (yard > bestYard) {
                bestYard = yard;
                best = kind;
            }
        }
        return best;
    }

    // ---- who should ride

    public int with(int people, int n) {
        if (people < 0 || people >= setsOfPeople() || !isRide(n)) {
            return finding(BEYOND);
        }
        return trialWith(people).yardBehind(n);
    }

    public int fewest(int yard, int n) {
        if (!isYard(yard) || !isRide(n)) {
            return finding(BEYOND);
        }
        int sets = setsOfPeople();
        for (int size = 0; size <= line.people; size++) {
            for (int set = 0; set < sets; set++) {
                if (Integer.bitCount(set) == size && trialWith(set).yardBehind(n) >= yard) {
                    return set;
                }
            }
        }
        return finding(NONE);
    }

    public int farthest(int n) {
        if (!isRide(n)) {
            return finding(BEYOND);
        }
        int sets = setsOfPeople();
        int best = 0;
        int bestYard = -1;
        for (int set = 0; set < sets; set++) {
            int yard = trialWith(set).yardBehind(n);
            if (yard > bestYard) {
                bestYard = yard;
                best = set;
            }
        }
        return best;
    }

    public int without(int n) {
        if (!isRide(n)) {
            return finding(BEYOND);
        }
        int best = NOTHING;
        int bestYard = -1;
        for (int person = 0; person < line.people; person++) {
            if (line.whereOf[person] == ABOARD) {
                trial.becomes(line);
                trial.whereOf[person] = line.train;
                int yard = trial.yardBehind(n);
                if (yard > bestYard) {
                    bestYard = yard;
                    best = person;
                }
            }
        }
        return best == NOTHING ? finding(NONE) : best;
    }

    public int persuade(int person, int yard, int n) {
        if (!isPerson(person) || !isYard(yard) || !isRide(n)) {
            return finding(BEYOND);
        }
        for (int belief = 0; belief <= MOST_BELIEF; belief++) {
            if (trialBelieving(person, belief).yardBehind(n) >= yard) {
                return belief;
            }
        }
        return finding(NONE);
    }

    public int bears(int stretch, int n) {
        if (!isStretch(stretch) || !isRide(n)) {
            return finding(BEYOND);
        }
        if (line.train > stretch) {
            return MOST_NEED;
        }
        int greatest = greatestSumMet(stretch, n);
        return greatest < 0 ? finding(NONE) : Math.min(greatest, MOST_NEED);
    }

    public int seat(int person, int n) {
        if (!isPerson(person) || !isRide(n)) {
            return finding(BEYOND);
        }
        int best = 0;
        int bestYard = -1;
        for (int seat = 0; seat <= LAST_YARD; seat++) {
            trial.becomes(line);
            trial.whereOf[person] = seat;
            int yard = trial.yardBehind(n);
            if (yard > bestYard) {
                bestYard = yard;
                best = seat;
            }
        }
        return best;
    }

    /**
     * The greatest SUM that the train meets at a stretch which never is there. With a lower need it
     * would have passed in that hour at the latest, and all hours before would have been the same.
     */
    private int greatestSumMet(int stretch, int n) {
        int greatest = -1;
        trial.becomes(line);
        trial.needs[stretch] = NEED_NEVER_MET;
        for (int hour = 0; hour < n; hour++) {
            if (trial.train == stretch) {
                greatest = Math.max(greatest, trial.sumAt(stretch));
            }
            trial.passHour();
        }
        return greatest;
    }

    private Prairie trialWith(int set) {
        trial.becomes(line);
        trial.letRide(set);
        return trial;
    }

    private Prairie trialBelieving(int person, int belief) {
        trial.becomes(line);
        trial.beliefOf[person] = belief;
        return trial;
    }

    // ---- whose doubt

    public int kinds(int s, int person) {
        Sheet sheet = sheetAt(s);
        if (sheet == null) {
            return finding(BEYOND);
        }
        if (sheet.bits == 0) {
            return finding(MISSING);
        }
        if (!isPerson(person)) {
            return finding(BEYOND);
        }
        int set = 0;
        for (int kind = 0; kind < KINDS; kind++) {
            trial.becomes(line);
            trial.kindOf[person] = kind;
            if (firstWrong(trial, sheet, true) == sheet.length) {
                set |= 1 << kind;
            }
        }
        return set;
    }

    public int beliefs(int s, int person) {
        Sheet sheet = sheetAt(s);
        if (sheet == null) {
            return finding(BEYOND);
        }
        if (sheet.bits == 0) {
            return finding(MISSING);
        }
        if (!isPerson(person)) {
            return finding(BEYOND);
        }
        int fitting = 0;
        for (int belief = 0; belief <= MOST_BELIEF; belief++) {
            if (firstWrong(trialBelieving(person, belief), sheet, true) == sheet.length) {
                fitting++;
            }
        }
        return fitting;
    }

    public int least(int s, int person) {
        Sheet sheet = sheetAt(s);
        if (sheet == null) {
            return finding(BEYOND);
        }
        if (sheet.bits == 0) {
            return finding(MISSING);
        }
        if (!isPerson(person)) {
            return finding(BEYOND);
        }
        for (int belief = 0; belief <= MOST_BELIEF; belief++) {
            if (firstWrong(trialBelieving(person, belief), sheet, true) == sheet.length) {
                return belief;
            }
        }
        return finding(NONE);
    }

    /** The first place of a sheet that is not the train's yard then; its length, if none is wrong. */
    private static int firstWrong(Prairie prairie, Sheet sheet, boolean knowsAny) {
        for (int i = 0; i < sheet.length; i++) {
            int told = sheet.numbers[i];
            boolean fits = told == prairie.train || knowsAny && told == ANY_YARD;
            if (!fits) {
                return i;
            }
            prairie.passHour();
        }
        return sheet.length;
    }

    // ---- bankers

    public int worth() {
        int worth = 0;
        for (int k = 0; k < STRETCHES; k++) {
            if (line.isThere(k)) {
                worth += line.needs[k];
            }
        }
        return worth;
    }

    public int hangs(int person) {
        if (!isPerson(person)) {
            return finding(BEYOND);
        }
        int hanging = 0;
        for (int k = 0; k < STRETCHES; k++) {
            int sum = line.sumAt(k);
            int need = line.needs[k];
            if (sum >= need && sum - line.brings(person, k) < need) {
                hanging++;
            }
        }
        return hanging;
    }

    public int run() {
        noteWhatIsBrought();
        int inQuestion = line.thereSet();
        int sets = setsOfPeople();
        for (int size = 0; size <= line.people; size++) {
            for (int set = 0; set < sets; set++) {
                if (Integer.bitCount(set) == size && endsAll(set, inQuestion)) {
                    return set;
                }
            }
        }
        // Never so: without all of them each SUM is 0.
        return sets - 1;
    }

    private void noteWhatIsBrought() {
        for (int k = 0; k < STRETCHES; k++) {
            for (int p = 0; p < line.people; p++) {
                brought[k * MOST_PEOPLE + p] = line.brings(p, k);
            }
        }
    }

    /** Whether those who stay bring less than its need to each stretch that is in question. */
    private boolean endsAll(int set, int inQuestion) {
        for (int k = 0; k < STRETCHES; k++) {
            if (has(inQuestion, k) && line.needs[k] > 0) {
                int rest = 0;
                for (int p = 0; p < line.people; p++) {
                    if (!has(set, p)) {
                        rest += brought[k * MOST_PEOPLE + p];
                    }
                }
                if (rest >= line.needs[k]) {
                    return false;
                }
            }
        }
        return true;
    }

    // ---- gold

    public int gold(int n) {
        if (!isWithin(n, 1, MOST_GOLD_DRAWS)) {
            return finding(BEYOND);
        }
        if (line.hours + n > MOST_HOURS) {
            return finding(STATE);
        }
        for (int i = 0; i < n; i++) {
            int stretch = line.nextDraw() % STRETCHES;
            line.needs[stretch] = Math.max(0, line.needs[stretch] - NEED_LOST_TO_GOLD);
            line.passHour();
        }
        return line.train;
    }

    public long odds(int n, int what) {
        if (!isWithin(n, 0, MOST_ODDS_DRAWS) || !isWithin(what, 0, 1)) {
            return finding(BEYOND);
        }
        long above = Integer.bitCount(line.thereSet());
        long below = STRETCHES;
        while (below > 1 && (above & 1) == 0) {
            above /= 2;
            below /= 2;
        }
        long part = what == 0 ? above : below;
        long power = 1;
        for (int i = 0; i < n; i++) {
            power *= part;
        }
        return power;
    }

    public int seed(int v) {
        int was = line.z;
        line.z = v;
        return was;
    }

    // ---- texts

    public int feed(int bytes, int n) {
        if (!isWithin(n, 1, 4)) {
            return finding(BEYOND);
        }
        if (tape.length + n > MOST_BYTES) {
            return finding(FULL);
        }
        tape.append(bytes, n);
        return tape.length;
    }

    public int wipe() {
        int had = tape.length;
        tape.length = 0;
        return had;
    }

    public int text() {
        trial.becomes(line);
        int answer = tape.tellAll(trial);
        tape.length = 0;
        if (answer >= 0) {
            line.becomes(trial);
        }
        return answer;
    }

    // ---- spots, sheets

    public int hold(int spot, int person) {
        if (!isSpot(spot) || person != NOTHING && !isPerson(person)) {
            return finding(BEYOND);
        }
        line.spots[spot] = person;
        return 1;
    }

    public int as(int spot, int kind) {
        if (!isSpot(spot) || !isKind(kind)) {
            return finding(BEYOND);
        }
        int person = line.spots[spot];
        if (!isPerson(person)) {
            return finding(MISSING);
        }
        return isUnder(line.kindOf[person], kind) ? person : finding(KIND);
    }

    public int sheet(int s, int bits, int n) {
        Sheet sheet = sheetAt(s);
        if (sheet == null || bits != 0 && bits != 8 && bits != 16 && bits != 32) {
            return finding(BEYOND);
        }
        if (n < 0) {
            return finding(SIZE);
        }
        if (n > MOST_NUMBERS) {
            return finding(BEYOND);
        }
        sheet.begin(bits, bits == 0 ? 0 : n);
        return sheet.length;
    }

    public int write(int s, int i, int v) {
        Sheet sheet = sheetAt(s);
        if (sheet == null) {
            return finding(BEYOND);
        }
        if (sheet.bits == 0) {
            return finding(MISSING);
        }
        if (i < 0 || i >= sheet.length) {
            return finding(BEYOND);
        }
        sheet.numbers[i] = sheet.lowest(v);
        return 1;
    }

    public int copy(int s, int from, int t, int to, int n) {
        Sheet source = sheetAt(s);
        Sheet target = sheetAt(t);
        if (source == null || target == null) {
            return finding(BEYOND);
        }
        if (source.bits == 0 || target.bits == 0) {
            return finding(MISSING);
        }
        if (source.bits != target.bits) {
            return finding(KIND);
        }
        if (!source.hasRow(from, n) || !target.hasRow(to, n)) {
            return finding(BEYOND);
        }
        System.arraycopy(source.numbers, from, target.numbers, to, n);
        return n;
    }

    public int load(int s) {
        Sheet sheet = sheetAt(s);
        if (sheet == null) {
            return finding(BEYOND);
        }
        if (sheet.bits == 0) {
            return finding(MISSING);
        }
        int came = 0;
        int room = Math.min(sheet.length, STRETCHES);
        while (came < room && isWithin(sheet.numbers[came], 0, MOST_NEED)) {
            line.needs[came] = sheet.numbers[came];
            came++;
        }
        return came;
    }

    public int judge(int s) {
        Sheet sheet = sheetAt(s);
        if (sheet == null) {
            return finding(BEYOND);
        }
        if (sheet.bits == 0) {
            return finding(MISSING);
        }
        trial.becomes(line);
        int wrong = firstWrong(trial, sheet, false);
        return wrong == sheet.length ? 0 : 1 + wrong;
    }

    // ---- images

    public int image() {
        kept.becomes(line);
        keeps = true;
        return 1;
    }

    public int undo() {
        if (!keeps) {
            return finding(NONE);
        }
        line.becomes(kept);
        return line.hours;
    }

    public int tear() {
        int had = keeps ? 1 : 0;
        keeps = false;
        return had;
    }

    public int count(int what) {
        switch (what) {
            case 0: return line.hours;
            case 1: return line.people;
            case 2: return Integer.bitCount(line.aboardSet());
            case 3: return Integer.bitCount(line.thereSet());
            case 4: return line.beliefOfAll();
            case 5: return tape.length;
            case 6: return line.z;
            case 7: return line.spotsInUse();
            default: return finding(BEYOND);
        }
    }

    public int status(int which) {
        if (which == -1) {
            int all = 0;
            for (int i = 0; i < FINDINGS; i++) {
                all += findings[i];
            }
            return all;
        }
        if (which < 0 || which >= FINDINGS) {
            return finding(BEYOND);
        }
        return findings[which];
    }

    // ---- what the acts ask

    private int finding(int which) {
        int place = BEYOND - which;
        if (place >= 0 && place < FINDINGS) {
            findings[place]++;
        }
        return which;
    }

    private static boolean isWithin(int v, int least, int most) {
        return v >= least && v <= most;
    }

    private static boolean isStretch(int stretch) {
        return stretch >= 0 && stretch < STRETCHES;
    }

    private static boolean isYard(int yard) {
        return yard >= 0 && yard <= LAST_YARD;
    }

    private static boolean isKind(int kind) {
        return kind >= 0 && kind < KINDS;
    }

    private static boolean isRide(int n) {
        return n >= 0 && n <= LONGEST_RIDE;
    }

    private static boolean isSpot(int spot) {
        return spot >= 0 && spot < SPOTS;
    }

    private boolean isPerson(int person) {
        return person >= 0 && person < line.people;
    }

    private int setsOfPeople() {
        return 1 << line.people;
    }

    private Sheet sheetAt(int s) {
        return s >= 0 && s < SHEETS ? sheets[s] : null;
    }

    private static boolean has(int set, int member) {
        return (set >>> member & 1) == 1;
    }

    private static boolean isUnder(int kind, int top) {
        int at = kind;
        for (int level = 0; level < KINDS && isKind(at); level++) {
            if (at == top) {
                return true;
            }
            at = KIND_ABOVE[at];
        }
        return false;
    }

    /** All that an image keeps: the line, the train, the people, the spots, the draws. */
    private static final class Prairie {
        static final int FIRST_NEED = 50;
        static final int FIRST_BELIEF = 50;

        final int[] needs = new int[STRETCHES];
        final int[] kindOf = new int[MOST_PEOPLE];
        final int[] whereOf = new int[MOST_PEOPLE];
        final int[] beliefOf = new int[MOST_PEOPLE];
        final int[] spots = new int[SPOTS];
        int people = 0;
        int train = 0;
        int night = 0;
        int gain = 3;
        int loss = 5;
        int fallen = 0;
        int hours = 0;
        int z = 1;
        /** Used within an hour alone: beliefs before it, and the beliefs aboard and at each yard. */
        private final int[] beliefBefore = new int[MOST_PEOPLE];
        private final int[] beliefsTogether = new int[LAST_YARD + 2];
        private final int[] headsTogether = new int[LAST_YARD + 2];

        Prairie() {
            Arrays.fill(needs, FIRST_NEED);
            Arrays.fill(spots, NOTHING);
        }

        void becomes(Prairie other) {
            System.arraycopy(other.needs, 0, needs, 0, STRETCHES);
            System.arraycopy(other.kindOf, 0, kindOf, 0, MOST_PEOPLE);
            System.arraycopy(other.whereOf, 0, whereOf, 0, MOST_PEOPLE);
            System.arraycopy(other.beliefOf, 0, beliefOf, 0, MOST_PEOPLE);
            System.arraycopy(other.spots, 0, spots, 0, SPOTS);
            people = other.people;
            train = other.train;
            night = other.night;
            gain = other.gain;
            loss = other.loss;
            fallen = other.fallen;
            hours = other.hours;
            z = other.z;
        }

        int newcomer(int kind, int where, int belief) {
            int number = people;
            if (number < MOST_PEOPLE) {
                kindOf[number] = kind;
                whereOf[number] = where;
                beliefOf[number] = belief;
                people++;
            }
            return number;
        }

        /** A set of people gets aboard, all others wait where the train is. */
        void letRide(int set) {
            for (int p = 0; p < people; p++) {
                whereOf[p] = has(set, p) ? ABOARD : train;
            }
        }

        int faith(int person) {
            int belief = beliefOf[person];
            int daylight = night == 0 ? 20 : 0;
            int shame = Math.min(fallen, FALLS_THAT_COUNT);
            switch (kindOf[person]) {
                case DOUBTER: return belief / 2;
                case SCEPTIC: return belief / 2 - 20;
                case PROPHET: return belief + daylight;
                case BANKER: return belief + daylight - shame;
                case SELLER: return belief + daylight - shame + 5 * companions(person);
                case CHILD: return night == 0 ? belief : 2 * belief;
                default: return belief;
            }
        }

        private int companions(int person) {
            int others = -1;
            for (int p = 0; p < people; p++) {
                if (whereOf[p] == whereOf[person]) {
                    others++;
                }
            }
            return others;
        }

        /** What one brings to the SUM at a stretch. */
        int brings(int person, int stretch) {
            int where = whereOf[person];
            if (where == ABOARD) {
                return faith(person);
            }
            int yards = where <= stretch ? stretch - where : where - stretch - 1;
            return Math.max(0, faith(person) - 10 * yards);
        }

        int sumAt(int stretch) {
            int sum = 0;
            for (int p = 0; p < people; p++) {
                sum += brings(p, stretch);
            }
            return sum;
        }

        boolean isThere(int stretch) {
            return stretch >= 0 && stretch < STRETCHES && sumAt(stretch) >= needs[stretch];
        }

        int thereSet() {
            int set = 0;
            for (int k = 0; k < STRETCHES; k++) {
                if (isThere(k)) {
                    set |= 1 << k;
                }
            }
            return set;
        }

        int aboardSet() {
            int set = 0;
            for (int p = 0; p < people; p++) {
                if (whereOf[p] == ABOARD) {
                    set |= 1 << p;
                }
            }
            return set;
        }

        int beliefOfAll() {
            int all = 0;
            for (int p = 0; p < people; p++) {
                all += beliefOf[p];
            }
            return all;
        }

        int spotsInUse() {
            int used = 0;
            for (int i = 0; i < SPOTS; i++) {
                if (spots[i] != NOTHING) {
                    used++;
                }
            }
            return used;
        }

        int nextDraw() {
            z = z * 1103515245 + 12345;
            return z >>> 8;
        }

        void passHours(int n) {
            for (int hour = 0; hour < n; hour++) {
                passHour();
            }
        }

        /**
         * The yard of the train behind n hours. It ends early at the last yard, and behind an hour
         * that moved nothing: then the train fell short, and will ever, as more falls never raise a
         * faith.
         */
        int yardBehind(int n) {
            boolean moves = true;
            for (int hour = 0; hour < n && moves && train < LAST_YARD; hour++) {
                moves = passHour();
            }
            return train;
        }

        /** An hour: whether the yard of the train or the belief of anyone is another than before. */
        boolean passHour() {
            int yardBefore = train;
            System.arraycopy(beliefOf, 0, beliefBefore, 0, people);
            if (train >= 0 && train < LAST_YARD) {
                if (sumAt(train) >= needs[train]) {
                    train++;
                    moveBeliefsAboard(gain);
                } else {
                    fallen = Math.min(fallen + 1, MOST_FALLS);
                    moveBeliefsAboard(-loss);
                }
            }
            sway();
            hours = Math.min(hours + 1, MOST_HOURS);
            return train != yardBefore || anyBeliefMoved();
        }

        private void moveBeliefsAboard(int by) {
            for (int p = 0; p < people; p++) {
                if (whereOf[p] == ABOARD) {
                    beliefOf[p] = Math.max(0, Math.min(MOST_BELIEF, beliefOf[p] + by));
                }
            }
        }

        /** All beliefs are summed up first, so that each goes by what all believed before. */
        private void sway() {
            for (int p = 0; p < people; p++) {
                beliefsTogether[whereOf[p] + 1] = 0;
                headsTogether[whereOf[p] + 1] = 0;
            }
            for (int p = 0; p < people; p++) {
                beliefsTogether[whereOf[p] + 1] += beliefOf[p];
                headsTogether[whereOf[p] + 1]++;
            }
            for (int p = 0; p < people; p++) {
                int heads = headsTogether[whereOf[p] + 1];
                int mean = heads > 0 ? beliefsTogether[whereOf[p] + 1] / heads : beliefOf[p];
                if (mean > beliefOf[p]) {
                    beliefOf[p]++;
                } else if (mean < beliefOf[p]) {
                    beliefOf[p]--;
                }
            }
        }

        private boolean anyBeliefMoved() {
            for (int p = 0; p < people; p++) {
                if (beliefOf[p] != beliefBefore[p]) {
                    return true;
                }
            }
            return false;
        }
    }

    /** A row of numbers of 8, 16 or 32 bits; of 0 bits while it is missing. */
    private static final class Sheet {
        int bits = 0;
        int length = 0;
        final int[] numbers = new int[MOST_NUMBERS];

        void begin(int bitsOfEach, int howMany) {
            bits = bitsOfEach;
            length = howMany;
            Arrays.fill(numbers, 0);
        }

        int lowest(int v) {
            switch (bits) {
                case 8: return (byte) v;
                case 16: return (short) v;
                default: return v;
            }
        }

        /** The rest of the sheet is compared, as from + n may be too much for an int. */
        boolean hasRow(int from, int n) {
            return from >= 0 && n >= 0 && n <= length - from;
        }
    }

    /** The tape, and how a text is read from it, token by token. */
    private static final class Tape {
        private static final int MOST_NUMBER = 999;

        private static final int AT_END = 0;
        private static final int AT_WORD = 1;
        private static final int AT_NUMBER = 2;
        private static final int AT_SEMICOLON = 3;
        private static final int AT_FAULT = 4;

        final byte[] bytes = new byte[MOST_BYTES];
        int length = 0;
        /** The token that is looked at: what it is, where it begins and ends, a number's value. */
        private int token = AT_END;
        private int begin = 0;
        private int end = 0;
        private int value = 0;

        void append(int number, int n) {
            for (int i = n - 1; i >= 0 && length < MOST_BYTES; i--) {
                bytes[length] = (byte) (number >>> 8 * i);
                length++;
            }
        }

        /** Tells a prairie all items: how many; or -1 less the fault, with the prairie half told. */
        int tellAll(Prairie prairie) {
            int items = 0;
            begin = 0;
            end = 0;
            advance();
            // Each item takes a byte at least.
            while (items <= MOST_BYTES && item(prairie)) {
                items++;
                if (token == AT_END) {
                    return items;
                }
                if (token != AT_SEMICOLON) {
                    return -1 - begin;
                }
                advance();
            }
            return -1 - begin;
        }

        /** Reads one item; if it can't, the token that is looked at is the fault. */
        private boolean item(Prairie prairie) {
            int kind = kindNamed();
            if (kind >= 0) {
                return personOf(prairie, kind);
            }
            if (isWord("need")) {
                return needOfStretch(prairie);
            }
            if (isWord("train")) {
                if (!numberFollows(LAST_YARD)) {
                    return false;
                }
                prairie.train = value;
            } else if (isWord("gain")) {
                if (!numberFollows(MOST_SHIFT)) {
                    return false;
                }
                prairie.gain = value;
            } else if (isWord("loss")) {
                if (!numberFollows(MOST_SHIFT)) {
                    return false;
                }
                prairie.loss = value;
            } else if (isWord("night")) {
                prairie.night = 1;
            } else if (isWord("day")) {
                prairie.night = 0;
            } else {
                return false;
            }
            advance();
            return true;
        }

        private int kindNamed() {
            int kind = -1;
            if (isWord("rider")) {
                kind = RIDER;
            } else if (isWord("doubter")) {
                kind = DOUBTER;
            } else if (isWord("prophet")) {
                kind = PROPHET;
            } else if (isWord("banker")) {
                kind = BANKER;
            } else if (isWord("seller")) {
                kind = SELLER;
            } else if (isWord("child")) {
                kind = CHILD;
            } else if (isWord("sceptic")) {
                kind = SCEPTIC;
            }
            return kind;
        }

        private boolean personOf(Prairie prairie, int kind) {
            if (prairie.people >= MOST_PEOPLE) {
                return false;
            }
            int where = ABOARD;
            int belief = Prairie.FIRST_BELIEF;
            advance();
            if (isWord("waits")) {
                if (!numberFollows(LAST_YARD)) {
                    return false;
                }
                where = value;
                advance();
            }
            if (isWord("believes")) {
                if (!numberFollows(MOST_BELIEF)) {
                    return false;
                }
                belief = value;
                advance();
            }
            prairie.newcomer(kind, where, belief);
            return true;
        }

        private boolean needOfStretch(Prairie prairie) {
            if (!numberFollows(STRETCHES - 1)) {
                return false;
            }
            int stretch = value;
            if (!numberFollows(MOST_NEED)) {
                return false;
            }
            prairie.needs[stretch] = value;
            advance();
            return true;
        }

        /** Goes on to the next token: whether it is a number that is not above the most. */
        private boolean numberFollows(int most) {
            advance();
            return token == AT_NUMBER && value <= most;
        }

        private boolean isWord(String word) {
            if (token != AT_WORD || end - begin != word.length()) {
                return false;
            }
            for (int i = 0; i < word.length(); i++) {
                if (bytes[begin + i] != word.charAt(i)) {
                    return false;
                }
            }
            return true;
        }

        private void advance() {
            int place = end;
            while (place < length && bytes[place] == ' ') {
                place++;
            }
            begin = place;
            if (place >= length) {
                token = AT_END;
            } else if (isLetter(bytes[place])) {
                token = AT_WORD;
                while (place < length && isLetter(bytes[place])) {
                    place++;
                }
            } else if (isDigit(bytes[place])) {
                token = AT_NUMBER;
                value = 0;
                while (place < length && isDigit(bytes[place])) {
                    // One above what a number may be is enough to know of any longer one.
                    value = Math.min(value * 10 + bytes[place] - '0', MOST_NUMBER + 1);
                    place++;
                }
            } else {
                token = bytes[place] == ';' ? AT_SEMICOLON : AT_FAULT;
                place++;
            }
            end = place;
        }

        private static boolean isLetter(int b) {
            return b >= 'a' && b <= 'z';
        }

        private static boolean isDigit(int b) {
            return b >= '0' && b <= '9';
        }
    }
}
