import java.lang.reflect.InvocationTargetException;
import java.lang.reflect.Method;
import java.nio.charset.StandardCharsets;
import java.util.ArrayList;
import java.util.Arrays;
import java.util.HashMap;
import java.util.List;
import java.util.Map;
import java.util.TreeMap;

/**
 * Long runs of calls on the program and on a second, slow model of the document that is written
 * another way; each answer must be the same. The calls come from fixed seeds, so a run that fails
 * fails again.
 */
public final class FaithRailsModelTest {
    private static final int RUNS = 700;
    private static final int CALLS = 160;
    private static final int LOW = -1000001;

    // ---- the model

    private static final class One implements Cloneable {
        int kind;
        int where;
        int belief;

        One(int kind, int where, int belief) {
            this.kind = kind;
            this.where = where;
            this.belief = belief;
        }
    }

    private static final class World {
        List<One> people = new ArrayList<>();
        int[] need = new int[16];
        Integer[] spots = new Integer[10];
        int train = 0;
        int night = 0;
        int gain = 3;
        int loss = 5;
        int falls = 0;
        int hour = 0;
        int z = 1;

        World() {
            Arrays.fill(need, 50);
        }

        World twin() {
            World w = new World();
            for (One o : people) {
                w.people.add(new One(o.kind, o.where, o.belief));
            }
            w.need = need.clone();
            w.spots = spots.clone();
            w.train = train;
            w.night = night;
            w.gain = gain;
            w.loss = loss;
            w.falls = falls;
            w.hour = hour;
            w.z = z;
            return w;
        }

        int faithAs(int kind, int i) {
            switch (kind) {
                case 0: return people.get(i).belief;
                case 1: return faithAs(0, i) / 2;
                case 2: return faithAs(0, i) + (night == 1 ? 0 : 20);
                case 3: return faithAs(2, i) - (falls > 30 ? 30 : falls);
                case 4:
                    int bonus = 0;
                    for (int j = 0; j < people.size(); j++) {
                        if (j != i && people.get(j).where == people.get(i).where) {
                            bonus += 5;
                        }
                    }
                    return faithAs(3, i) + bonus;
                case 5: return night == 1 ? faithAs(0, i) * 2 : faithAs(0, i);
                default: return faithAs(1, i) - 20;
            }
        }

        int share(int i, int k) {
            One o = people.get(i);
            int faith = faithAs(o.kind, i);
            if (o.where == -1) {
                return faith;
            }
            int away = Math.min(Math.abs(o.where - k), Math.abs(o.where - (k + 1)));
            int rest = faith - 10 * away;
            return rest > 0 ? rest : 0;
        }

        int sum(int k) {
            int sum = 0;
            for (int i = 0; i < people.size(); i++) {
                sum += share(i, k);
            }
            return sum;
        }

        boolean isThere(int k) {
            return sum(k) >= need[k];
        }

        List<Integer> thereList() {
            List<Integer> list = new ArrayList<>();
            for (int k = 0; k < 16; k++) {
                if (isThere(k)) {
                    list.add(k);
                }
            }
            return list;
        }

        void pass() {
            if (train != 16) {
                boolean rails = isThere(train);
                if (rails) {
                    train++;
                } else {
                    falls = Math.min(99999, falls + 1);
                }
                for (One o : people) {
                    if (o.where == -1) {
                        o.belief = Math.min(99, Math.max(0, o.belief + (rails ? gain : -loss)));
                    }
                }
            }
            Map<Integer, List<One>> groups = new TreeMap<>();
            for (One o : people) {
                groups.computeIfAbsent(o.where, w -> new ArrayList<>()).add(o);
            }
            for (List<One> group : groups.values()) {
                int total = 0;
                for (One o : group) {
                    total += o.belief;
                }
                int mean = total / group.size();
                for (One o : group) {
                    o.belief += Integer.signum(mean - o.belief);
                }
            }
            hour = Math.min(99999, hour + 1);
        }

        World behind(int hours) {
            World w = twin();
            for (int i = 0; i < hours; i++) {
                w.pass();
            }
            return w;
        }

        World riding(int set) {
            World w = twin();
            for (int i = 0; i < people.size(); i++) {
                w.people.get(i).where = (set & 1 << i) != 0 ? -1 : train;
            }
            return w;
        }

        World with(int person, int what, int v) {
            World w = twin();
            One o = w.people.get(person);
            if (what == 0) {
                o.kind = v;
            } else if (what == 1) {
                o.where = v;
            } else {
                o.belief = v;
            }
            return w;
        }

        int beliefs() {
            int all = 0;
            for (One o : people) {
                all += o.belief;
            }
            return all;
        }

        int aboard() {
            int set = 0;
            for (int i = 0; i < people.size(); i++) {
                if (people.get(i).where == -1) {
                    set += 1 << i;
                }
            }
            return set;
        }

        String still() {
            StringBuilder b = new StringBuilder().append(train);
            for (One o : people) {
                b.append(' ').append(o.belief);
            }
            return b.toString();
        }
    }

    private static final class Paper {
        int bits;
        long[] row;
    }

    private static final class Model {
        static final int BEYOND = LOW;
        static final int FULL = LOW - 1;
        static final int KIND = LOW - 2;
        static final int NONE = LOW - 3;
        static final int STATE = LOW - 4;
        static final int MISSING = LOW - 5;
        static final int SIZE = LOW - 6;
        static final int[] UP = {-1, 0, 0, 2, 3, 0, 1};

        World w = new World();
        World kept = null;
        List<Integer> tape = new ArrayList<>();
        Paper[] papers = new Paper[4];
        int[] counted = new int[7];

        long call(String name, int[] a) {
            long answer = answer(name, a);
            boolean free = name.equals("seed") || name.equals("count") && a[0] == 6;
            if (!free && answer <= LOW && answer >= LOW - 6) {
                counted[(int) (LOW - answer)]++;
            }
            return answer;
        }

        boolean one(int p) {
            return p >= 0 && p < w.people.size();
        }

        static boolean in(int v, int low, int high) {
            return low <= v && v <= high;
        }

        static long below(List<Integer> members) {
            long set = 0;
            for (int m : members) {
                set += 1L << m;
            }
            return set;
        }

        long answer(String name, int[] a) {
            switch (name) {
                case "need": {
                    if (!in(a[0], 0, 15) || !in(a[1], 0, 999)) {
                        return BEYOND;
                    }
                    int was = w.need[a[0]];
                    w.need[a[0]] = a[1];
                    return was;
                }
                case "stretch":
                    if (!in(a[0], 0, 15) || !in(a[1], 0, 2)) {
                        return BEYOND;
                    }
                    return a[1] == 0 ? w.need[a[0]] : a[1] == 1 ? w.sum(a[0]) : w.isThere(a[0]) ? 1 : 0;
                case "person":
                    if (!in(a[0], 0, 6) || !in(a[1], -1, 16)) {
                        return BEYOND;
                    }
                    if (w.people.size() == 8) {
                        return FULL;
                    }
                    w.people.add(new One(a[0], a[1], 50));
                    return w.people.size() - 1;
                case "of": {
                    if (!one(a[0]) || !in(a[1], 0, 3)) {
                        return BEYOND;
                    }
                    One o = w.people.get(a[0]);
                    return new int[] {o.kind, o.where, o.belief, w.faithAs(o.kind, a[0])}[a[1]];
                }
                case "change": {
                    if (!one(a[0]) || !in(a[1], 0, 2)) {
                        return BEYOND;
                    }
                    if (!in(a[2], a[1] == 1 ? -1 : 0, new int[] {6, 16, 99}[a[1]])) {
                        return BEYOND;
                    }
                    One o = w.people.get(a[0]);
                    int was = new int[] {o.kind, o.where, o.belief}[a[1]];
                    w = w.with(a[0], a[1], a[2]);
                    return was;
                }
                case "set": {
                    if (!in(a[0], 0, 3) || !in(a[1], 0, new int[] {16, 1, 20, 20}[a[0]])) {
                        return BEYOND;
                    }
                    int was = new int[] {w.train, w.night, w.gain, w.loss}[a[0]];
                    switch (a[0]) {
                        case 0: w.train = a[1]; break;
                        case 1: w.night = a[1]; break;
                        case 2: w.gain = a[1]; break;
                        default: w.loss = a[1];
                    }
                    return was;
                }
                case "board":
                    if (!one(a[0])) {
                        return BEYOND;
                    }
                    if (w.people.get(a[0]).where != w.train) {
                        return STATE;
                    }
                    w.people.get(a[0]).where = -1;
                    return 1;
                case "leave":
                    if (!one(a[0])) {
                        return BEYOND;
                    }
                    if (w.people.get(a[0]).where != -1) {
                        return STATE;
                    }
                    w.people.get(a[0]).where = w.train;
                    return w.train;
                case "go":
                    if (!in(a[0], 1, 60)) {
                        return BEYOND;
                    }
                    w = w.behind(a[0]);
                    return w.train;
                case "now":
                    switch (a[0]) {
                        case 0: return w.hour;
                        case 1: return w.train;
                        case 2: return w.aboard();
                        case 3: return below(w.thereList());
                        case 4: return w.falls;
                        case 5: return w.night;
                        case 6: return w.beliefs();
                        default: return BEYOND;
                    }
                default:
                    return ahead(name, a);
            }
        }

        long ahead(String name, int[] a) {
            switch (name) {
                case "ahead":
                    return in(a[0], 0, 100) ? w.behind(a[0]).train : BEYOND;
                case "believes":
                    if (!one(a[0]) || !in(a[1], 0, 100)) {
                        return BEYOND;
                    }
                    return w.behind(a[1]).people.get(a[0]).belief;
                case "when":
                    if (!in(a[0], 0, 16)) {
                        return BEYOND;
                    }
                    for (int h = 0; h <= 100; h++) {
                        if (w.behind(h).train == a[0]) {
                            return h;
                        }
                    }
                    return NONE;
                case "falls":
                    for (int h = 0; h <= 100; h++) {
                        if (w.behind(h + 1).falls > w.behind(h).falls) {
                            return h;
                        }
                    }
                    return NONE;
                case "settles":
                    for (int h = 0; h <= 100; h++) {
                        if (w.behind(h + 1).still().equals(w.behind(h).still())) {
                            return h;
                        }
                    }
                    return NONE;
                case "there":
                    return in(a[0], 0, 100) ? below(w.behind(a[0]).thereList()) : BEYOND;
                case "kindFor":
                case "seat": {
                    if (!one(a[0]) || !in(a[1], 0, 60)) {
                        return BEYOND;
                    }
                    int what = name.equals("seat") ? 1 : 0;
                    int best = 0;
                    for (int v = 1; v <= (what == 1 ? 16 : 6); v++) {
                        if (w.with(a[0], what, v).behind(a[1]).train
                                > w.with(a[0], what, best).behind(a[1]).train) {
                            best = v;
                        }
                    }
                    return best;
                }
                default:
                    return riding(name, a);
            }
        }

        long riding(String name, int[] a) {
            int sets = 1 << w.people.size();
            switch (name) {
                case "with":
                    return in(a[0], 0, sets - 1) && in(a[1], 0, 60)
                            ? w.riding(a[0]).behind(a[1]).train : BEYOND;
                case "fewest": {
                    if (!in(a[0], 0, 16) || !in(a[1], 0, 60)) {
                        return BEYOND;
                    }
                    int best = -1;
                    for (int s = 0; s < sets; s++) {
                        if (w.riding(s).behind(a[1]).train >= a[0]
                                && (best < 0 || Integer.bitCount(s) < Integer.bitCount(best))) {
                            best = s;
                        }
                    }
                    return best < 0 ? NONE : best;
                }
                case "farthest": {
                    if (!in(a[0], 0, 60)) {
                        return BEYOND;
                    }
                    int most = 0;
                    for (int s = 0; s < sets; s++) {
                        most = Math.max(most, w.riding(s).behind(a[0]).train);
                    }
                    for (int s = 0; s < sets; s++) {
                        if (w.riding(s).behind(a[0]).train == most) {
                            return s;
                        }
                    }
                    return 0;
                }
                case "without": {
                    if (!in(a[0], 0, 60)) {
                        return BEYOND;
                    }
                    int best = -1;
                    int most = -1;
                    for (int p = 0; p < w.people.size(); p++) {
                        if (w.people.get(p).where == -1) {
                            int yard = w.with(p, 1, w.train).behind(a[0]).train;
                            if (yard > most) {
                                most = yard;
                                best = p;
                            }
                        }
                    }
                    return best < 0 ? NONE : best;
                }
                case "persuade":
                    if (!one(a[0]) || !in(a[1], 0, 16) || !in(a[2], 0, 60)) {
                        return BEYOND;
                    }
                    for (int b = 0; b < 100; b++) {
                        if (w.with(a[0], 2, b).behind(a[2]).train >= a[1]) {
                            return b;
                        }
                    }
                    return NONE;
                case "bears":
                    if (!in(a[0], 0, 15) || !in(a[1], 0, 60)) {
                        return BEYOND;
                    }
                    for (int v = 999; v >= 0; v--) {
                        World t = w.twin();
                        t.need[a[0]] = v;
                        if (t.behind(a[1]).train > a[0]) {
                            return v;
                        }
                    }
                    return NONE;
                default:
                    return doubt(name, a);
            }
        }

        boolean fits(World t, long[] row, boolean any) {
            for (int h = 0; h < row.length; h++) {
                if (!(any && row[h] == -1) && t.behind(h).train != row[h]) {
                    return false;
                }
            }
            return true;
        }

        long doubt(String name, int[] a) {
            int sets = 1 << w.people.size();
            switch (name) {
                case "kinds":
                case "beliefs":
                case "least": {
                    if (!in(a[0], 0, 3)) {
                        return BEYOND;
                    }
                    if (papers[a[0]] == null) {
                        return MISSING;
                    }
                    if (!one(a[1])) {
                        return BEYOND;
                    }
                    int what = name.equals("kinds") ? 0 : 2;
                    List<Integer> fit = new ArrayList<>();
                    for (int v = 0; v <= (what == 0 ? 6 : 99); v++) {
                        if (fits(w.with(a[1], what, v), papers[a[0]].row, true)) {
                            fit.add(v);
                        }
                    }
                    if (name.equals("least")) {
                        return fit.isEmpty() ? NONE : fit.get(0);
                    }
                    return what == 0 ? below(fit) : fit.size();
                }
                case "worth": {
                    long worth = 0;
                    for (int k : w.thereList()) {
                        worth += w.need[k];
                    }
                    return worth;
                }
                case "hangs": {
                    if (!one(a[0])) {
                        return BEYOND;
                    }
                    int hang = 0;
                    for (int k : w.thereList()) {
                        if (w.sum(k) - w.share(a[0], k) < w.need[k]) {
                            hang++;
                        }
                    }
                    return hang;
                }
                case "run": {
                    int best = -1;
                    for (int s = 0; s < sets; s++) {
                        boolean all = true;
                        for (int k : w.thereList()) {
                            int rest = w.sum(k);
                            for (int p = 0; p < w.people.size(); p++) {
                                rest -= (s >> p & 1) * w.share(p, k);
                            }
                            all &= w.need[k] == 0 || rest < w.need[k];
                        }
                        if (all && (best < 0 || Integer.bitCount(s) < Integer.bitCount(best))) {
                            best = s;
                        }
                    }
                    return best;
                }
                case "gold":
                    if (!in(a[0], 1, 20)) {
                        return BEYOND;
                    }
                    for (int i = 0; i < a[0]; i++) {
                        w.z = w.z * 1103515245 + 12345;
                        int k = (w.z >>> 8) % 16;
                        w.need[k] = w.need[k] < 10 ? 0 : w.need[k] - 10;
                        w.pass();
                    }
                    return w.train;
                case "odds": {
                    if (!in(a[0], 0, 14) || !in(a[1], 0, 1)) {
                        return BEYOND;
                    }
                    long up = 1;
                    long down = 1;
                    for (int i = 0; i < a[0]; i++) {
                        up *= w.thereList().size();
                        down *= 16;
                    }
                    long g = gcd(up, down);
                    return a[1] == 0 ? up / g : down / g;
                }
                case "seed": {
                    int was = w.z;
                    w.z = a[0];
                    return was;
                }
                default:
                    return papers(name, a);
            }
        }

        static long gcd(long a, long b) {
            return b == 0 ? a : gcd(b, a % b);
        }

        long papers(String name, int[] a) {
            switch (name) {
                case "feed":
                    if (!in(a[1], 1, 4)) {
                        return BEYOND;
                    }
                    if (tape.size() + a[1] > 120) {
                        return FULL;
                    }
                    for (int i = a[1]; i > 0; i--) {
                        tape.add(a[0] >> 8 * (i - 1) & 255);
                    }
                    return tape.size();
                case "wipe": {
                    int had = tape.size();
                    tape.clear();
                    return had;
                }
                case "text": {
                    World t = w.twin();
                    int told = new Reader(tape, t).read();
                    tape.clear();
                    if (told >= 0) {
                        w = t;
                    }
                    return told;
                }
                case "hold":
                    if (!in(a[0], 0, 9) || !in(a[1], -1, w.people.size() - 1)) {
                        return BEYOND;
                    }
                    w.spots[a[0]] = a[1] < 0 ? null : Integer.valueOf(a[1]);
                    return 1;
                case "as": {
                    if (!in(a[0], 0, 9) || !in(a[1], 0, 6)) {
                        return BEYOND;
                    }
                    if (w.spots[a[0]] == null) {
                        return MISSING;
                    }
                    int p = w.spots[a[0]];
                    for (int k = w.people.get(p).kind; k >= 0; k = UP[k]) {
                        if (k == a[1]) {
                            return p;
                        }
                    }
                    return KIND;
                }
                case "sheet":
                    if (!in(a[0], 0, 3) || !List.of(0, 8, 16, 32).contains(a[1])) {
                        return BEYOND;
                    }
                    if (a[2] < 0) {
                        return SIZE;
                    }
                    if (a[2] > 40) {
                        return BEYOND;
                    }
                    papers[a[0]] = null;
                    if (a[1] == 0) {
                        return 0;
                    }
                    papers[a[0]] = new Paper();
                    papers[a[0]].bits = a[1];
                    papers[a[0]].row = new long[a[2]];
                    return a[2];
                case "write": {
                    if (!in(a[0], 0, 3)) {
                        return BEYOND;
                    }
                    Paper p = papers[a[0]];
                    if (p == null) {
                        return MISSING;
                    }
                    if (!in(a[1], 0, p.row.length - 1)) {
                        return BEYOND;
                    }
                    long size = 1L << p.bits;
                    long v = Math.floorMod((long) a[2], size);
                    p.row[a[1]] = v >= size / 2 ? v - size : v;
                    return 1;
                }
                default:
                    return rest(name, a);
            }
        }

        long rest(String name, int[] a) {
            switch (name) {
                case "copy": {
                    if (!in(a[0], 0, 3) || !in(a[2], 0, 3)) {
                        return BEYOND;
                    }
                    Paper s = papers[a[0]];
                    Paper t = papers[a[2]];
                    if (s == null || t == null) {
                        return MISSING;
                    }
                    if (s.bits != t.bits) {
                        return KIND;
                    }
                    if (a[1] < 0 || a[3] < 0 || a[4] < 0 || (long) a[1] + a[4] > s.row.length
                            || (long) a[3] + a[4] > t.row.length) {
                        return BEYOND;
                    }
                    long[] were = s.row.clone();
                    for (int i = 0; i < a[4]; i++) {
                        t.row[a[3] + i] = were[a[1] + i];
                    }
                    return a[4];
                }
                case "load":
                case "judge": {
                    if (!in(a[0], 0, 3)) {
                        return BEYOND;
                    }
                    if (papers[a[0]] == null) {
                        return MISSING;
                    }
                    long[] row = papers[a[0]].row;
                    int i = 0;
                    if (name.equals("judge")) {
                        for (; i < row.length; i++) {
                            if (w.behind(i).train != row[i]) {
                                return 1 + i;
                            }
                        }
                        return 0;
                    }
                    for (; i < row.length && i < 16 && row[i] >= 0 && row[i] <= 999; i++) {
                        w.need[i] = (int) row[i];
                    }
                    return i;
                }
                case "image":
                    kept = w.twin();
                    return 1;
                case "undo":
                    if (kept == null) {
                        return NONE;
                    }
                    w = kept.twin();
                    return w.hour;
                case "tear": {
                    int had = kept == null ? 0 : 1;
                    kept = null;
                    return had;
                }
                case "count":
                    switch (a[0]) {
                        case 0: return w.hour;
                        case 1: return w.people.size();
                        case 2: return Integer.bitCount(w.aboard());
                        case 3: return w.thereList().size();
                        case 4: return w.beliefs();
                        case 5: return tape.size();
                        case 6: return w.z;
                        case 7: {
                            int held = 0;
                            for (Integer s : w.spots) {
                                held += s == null ? 0 : 1;
                            }
                            return held;
                        }
                        default: return BEYOND;
                    }
                case "status":
                    if (!in(a[0], -1, 6)) {
                        return BEYOND;
                    }
                    return a[0] < 0 ? Arrays.stream(counted).sum() : counted[a[0]];
                default:
                    throw new IllegalStateException(name);
            }
        }
    }

    /** Reads a text from a list of all its tokens, which are cut first. */
    private static final class Reader {
        static final List<String> NAMES =
                List.of("rider", "doubter", "prophet", "banker", "seller", "child", "sceptic");
        final List<String> tokens = new ArrayList<>();
        final List<Integer> places = new ArrayList<>();
        final World w;
        int at = 0;

        Reader(List<Integer> bytes, World w) {
            this.w = w;
            StringBuilder all = new StringBuilder();
            for (int b : bytes) {
                all.append((char) b);
            }
            java.util.regex.Matcher m =
                    java.util.regex.Pattern.compile("[a-z]+|[0-9]+|[^ ]", java.util.regex.Pattern.DOTALL)
                            .matcher(all);
            while (m.find()) {
                tokens.add(m.group());
                places.add(m.start());
            }
            tokens.add("");
            places.add(bytes.size());
        }

        int read() {
            int items = 0;
            try {
                do {
                    item();
                    items++;
                } while (took(";"));
                if (!tokens.get(at).isEmpty()) {
                    throw new IllegalArgumentException();
                }
                return items;
            } catch (IllegalArgumentException fault) {
                return -1 - places.get(at);
            }
        }

        boolean took(String token) {
            if (tokens.get(at).equals(token)) {
                at++;
                return true;
            }
            return false;
        }

        int number(int most) {
            String t = tokens.get(at);
            if (!t.matches("[0-9]+") || new java.math.BigInteger(t).compareTo(
                    java.math.BigInteger.valueOf(most)) > 0) {
                throw new IllegalArgumentException();
            }
            at++;
            return Integer.parseInt(t);
        }

        void item() {
            int kind = NAMES.indexOf(tokens.get(at));
            if (kind >= 0 && w.people.size() < 8) {
                at++;
                int where = took("waits") ? number(16) : -1;
                int belief = took("believes") ? number(99) : 50;
                w.people.add(new One(kind, where, belief));
            } else if (took("need")) {
                int k = number(15);
                w.need[k] = number(999);
            } else if (took("train")) {
                w.train = number(16);
            } else if (took("gain")) {
                w.gain = number(20);
            } else if (took("loss")) {
                w.loss = number(20);
            } else if (took("night")) {
                w.night = 1;
            } else if (took("day")) {
                w.night = 0;
            } else {
                throw new IllegalArgumentException();
            }
        }
    }

    // ---- the runs

    /** Numbers from a fixed seed: the same in each run of this test. */
    private static final class Dice {
        long state;

        Dice(long seed) {
            state = seed * 7919 + 17;
        }

        int below(int n) {
            state = state * 6364136223846793005L + 1442695040888963407L;
            return (int) ((state >>> 33) % n);
        }

        int in(int low, int high) {
            return low + below(high - low + 1);
        }

        boolean one(int in) {
            return below(in) == 0;
        }
    }

    private static final int[] WILD = {Integer.MIN_VALUE, Integer.MIN_VALUE + 1, -1000001, -1000, -2, -1, 0,
        1, 7, 8, 9, 10, 14, 15, 16, 17, 20, 21, 32, 40, 41, 60, 61, 99, 100, 101, 255, 256, 999, 1000,
        Integer.MAX_VALUE - 1, Integer.MAX_VALUE};

    private static final String[] LIGHT = {"need", "need", "stretch", "stretch", "person", "of", "of", "change",
        "change", "change", "set", "set", "board", "leave", "go", "now", "now", "hangs", "worth", "odds", "seed",
        "feed", "wipe", "text", "TEXT", "TEXT", "hold", "hold", "as", "as", "sheet", "write", "write", "WRITE",
        "WRITE", "WRITE", "copy", "copy", "load", "judge", "judge", "image", "undo", "tear", "count", "status",
        "gold", "there", "ahead", "believes", "CHECK"};
    private static final String[] HEAVY = {"when", "falls", "settles", "kindFor", "with", "fewest", "farthest",
        "without", "persuade", "bears", "seat", "kinds", "beliefs", "least", "run", "kinds"};

    private static final String[] WORDS = {"rider", "doubter", "prophet", "banker", "seller", "child", "sceptic",
        "waits", "believes", "need", "train", "gain", "loss", "night", "day", ";", "7", "0", "16", "17", "99",
        "100", "999", "1000", "0005", "99999999999999999999", "x", "Rider", "#", "riders", ":", "-1", "\n", "\u00e9"};

    private final FaithRails rails = new FaithRails();
    private final Model model = new Model();
    private final Dice dice;
    private final int run;
    private final List<String> log = new ArrayList<>();
    private boolean wrong = false;

    private FaithRailsModelTest(int run) {
        this.run = run;
        this.dice = new Dice(run);
    }

    private static final Map<String, Method> METHODS = new HashMap<>();

    private long call(String name, int... a) {
        Method m = METHODS.get(name);
        Object[] boxed = new Object[a.length];
        for (int i = 0; i < a.length; i++) {
            boxed[i] = a[i];
        }
        long got;
        try {
            got = ((Number) m.invoke(rails, boxed)).longValue();
        } catch (IllegalAccessException | InvocationTargetException e) {
            System.out.println("run " + run + ": " + name + Arrays.toString(a) + " threw " + e.getCause());
            wrong = true;
            return 0;
        }
        long want = model.call(name, a);
        log.add(name + Arrays.toString(a) + " = " + want);
        if (got != want) {
            wrong = true;
            System.out.println("run " + run + ": answered " + got + ", due is " + want + ": " + log);
        }
        return got;
    }

    /** What an act of a name mostly gets: numbers that mean something. */
    private int[] plain(String name) {
        int p = dice.below(Math.max(1, model.w.people.size()));
        int n60 = dice.in(0, dice.one(3) ? 60 : 12);
        int n100 = dice.in(0, dice.one(3) ? 100 : 15);
        switch (name) {
            case "need": return new int[] {dice.below(16), dice.one(3) ? dice.in(0, 999) : dice.in(0, 300)};
            case "stretch": return new int[] {dice.below(16), dice.below(3)};
            case "person": return new int[] {dice.below(7), dice.in(-1, dice.one(2) ? 16 : -1)};
            case "of": return new int[] {p, dice.below(4)};
            case "change": {
                int what = dice.below(3);
                return new int[] {p, what, what == 0 ? dice.below(7) : what == 1 ? dice.in(-1, 16) : dice.below(100)};
            }
            case "set": {
                int what = dice.below(4);
                return new int[] {what, what == 0 ? dice.in(0, dice.one(3) ? 16 : 5) : dice.below(what == 1 ? 2 : 21)};
            }
            case "board": case "leave": case "hangs": return new int[] {p};
            case "go": return new int[] {dice.in(1, dice.one(4) ? 60 : 4)};
            case "now": return new int[] {dice.below(7)};
            case "ahead": case "there": return new int[] {n100};
            case "believes": return new int[] {p, n100};
            case "when": return new int[] {dice.in(0, 16)};
            case "kindFor": case "seat": return new int[] {p, n60};
            case "with": return new int[] {dice.below(1 << model.w.people.size()), n60};
            case "fewest": return new int[] {dice.in(0, 16), n60};
            case "farthest": case "without": return new int[] {n60};
            case "persuade": return new int[] {p, Math.min(16, model.w.train + dice.in(0, 6)), n60};
            case "bears": return new int[] {dice.one(2) ? dice.below(16) : Math.min(15, model.w.train), n60};
            case "kinds": case "beliefs": case "least": return new int[] {dice.below(4), p};
            case "gold": return new int[] {dice.in(1, dice.one(4) ? 20 : 3)};
            case "odds": return new int[] {dice.in(0, 14), dice.below(2)};
            case "seed": return new int[] {dice.one(9) ? WILD[dice.below(WILD.length)] : dice.below(1 << 30)};
            case "feed": return new int[] {dice.below(1 << 30) * 4 + dice.below(4), dice.in(1, 4)};
            case "hold": return new int[] {dice.below(10), dice.one(5) ? -1 : p};
            case "as": return new int[] {dice.below(10), dice.below(7)};
            case "sheet": return new int[] {dice.below(4), new int[] {0, 8, 8, 16, 16, 32}[dice.below(6)], dice.in(0, dice.one(3) ? 40 : 5)};
            case "write": return new int[] {dice.below(4), dice.below(8), dice.one(3) ? WILD[dice.below(WILD.length)] : dice.in(-1, 16)};
            case "copy": return new int[] {dice.below(4), dice.below(6), dice.below(4), dice.below(6), dice.below(6)};
            case "load": case "judge": return new int[] {dice.below(4)};
            case "count": return new int[] {dice.below(8)};
            case "status": return new int[] {dice.in(-1, 6)};
            default: return new int[0];
        }
    }

    private void feedAll(String text) {
        byte[] bytes = text.getBytes(StandardCharsets.ISO_8859_1);
        for (int i = 0; i < bytes.length; ) {
            int n = Math.min(bytes.length - i, dice.in(1, 4));
            int v = dice.one(2) ? 0 : dice.below(1 << 30);
            for (int j = 0; j < n; j++) {
                v = v << 8 | bytes[i + j] & 255;
            }
            call("feed", v, n);
            i += n;
        }
    }

    private String item() {
        String blank = dice.one(5) ? "  " : " ";
        switch (dice.below(7)) {
            case 0: return "need" + blank + dice.below(dice.one(9) ? 18 : 16) + blank + dice.below(dice.one(9) ? 1100 : 300);
            case 1: return "train" + (dice.one(4) ? "" : blank) + dice.below(dice.one(9) ? 19 : 6);
            case 2: return (dice.one(2) ? "gain" : "loss") + blank + dice.below(dice.one(9) ? 23 : 21);
            case 3: return dice.one(2) ? "night" : "day";
            default:
                return WORDS[dice.below(7)] + (dice.one(2) ? blank + "waits" + blank + dice.below(dice.one(9) ? 19 : 17) : "")
                        + (dice.one(2) ? blank + "believes" + blank + dice.below(dice.one(9) ? 103 : 100) : "");
        }
    }

    private void tellText() {
        StringBuilder text = new StringBuilder();
        int items = dice.in(1, 5);
        for (int i = 0; i < items; i++) {
            text.append(i == 0 ? "" : dice.one(3) ? " ; " : ";").append(item());
        }
        if (dice.one(3)) {
            int cut = dice.below(text.length() + 1);
            String strange = WORDS[dice.below(WORDS.length)];
            text.insert(cut, dice.one(2) ? " " + strange + " " : strange);
        }
        if (dice.one(6)) {
            text.setLength(dice.below(text.length() + 1));
        }
        if (dice.one(3)) {
            call("wipe");
        }
        feedAll(text.toString());
        call("text");
    }

    /** A sheet gets what the train will do, but for some numbers. */
    private void writeRide() {
        int s = dice.below(4);
        int n = dice.in(1, 12);
        call("sheet", s, new int[] {8, 16, 32}[dice.below(3)], n);
        World w = model.one(0) && dice.one(2) ? model.w.with(0, 2, dice.below(100)) : model.w;
        for (int i = 0; i < n; i++) {
            call("write", s, i, dice.one(5) ? -1 : dice.one(30) ? dice.in(-3, 16) : w.behind(i).train);
        }
        String act = new String[] {"kinds", "beliefs", "least", "judge"}[dice.below(4)];
        if (act.equals("judge")) {
            call(act, s);
        } else {
            call(act, s, dice.below(Math.max(1, model.w.people.size())));
        }
    }

    private void checkAll() {
        for (int i = 0; i < 8; i++) {
            call("count", i);
            call("now", i);
            call("status", i - 1);
            for (int what = 0; what < 4; what++) {
                call("of", i, what);
            }
        }
        for (int k = 0; k < 16; k++) {
            call("stretch", k, 0);
            call("stretch", k, 1);
        }
    }

    private void step() {
        String name = dice.one(6) ? HEAVY[dice.below(HEAVY.length)] : LIGHT[dice.below(LIGHT.length)];
        switch (name) {
            case "TEXT": tellText(); break;
            case "WRITE": writeRide(); break;
            case "CHECK": checkAll(); break;
            default:
                int[] a = plain(name);
                if (a.length > 0 && dice.one(12)) {
                    a[dice.below(a.length)] = WILD[dice.below(WILD.length)];
                }
                call(name, a);
        }
    }

    private void begin() {
        int people = dice.below(9);
        boolean full = people > 5 && !dice.one(4);
        for (int i = 0; i < (full ? 5 : people); i++) {
            call("person", dice.below(7), dice.one(2) ? -1 : dice.in(0, dice.one(2) ? 16 : 4));
            call("change", i, 2, dice.below(100));
        }
        for (int k = 0; k < 16; k++) {
            if (dice.one(2)) {
                call("need", k, dice.in(0, 80 * Math.max(1, people)));
            }
        }
    }

    private boolean goWell() {
        begin();
        while (log.size() < CALLS && !wrong) {
            step();
        }
        checkAll();
        return !wrong;
    }

    public static void main(String[] args) {
        for (Method m : FaithRails.class.getDeclaredMethods()) {
            if (java.lang.reflect.Modifier.isPublic(m.getModifiers())) {
                METHODS.put(m.getName(), m);
            }
        }
        int from = args.length > 0 ? Integer.parseInt(args[0]) : 0;
        int runs = args.length > 1 ? Integer.parseInt(args[1]) : RUNS;
        int bad = 0;
        Map<String, Integer> told = new TreeMap<>();
        for (int run = from; run < from + runs; run++) {
            FaithRailsModelTest test = new FaithRailsModelTest(run);
            if (!test.goWell()) {
                bad++;
            }
            for (String line : test.log) {
                String name = line.substring(0, line.indexOf('['));
                long v = Long.parseLong(line.substring(line.indexOf("= ") + 2));
                told.merge(name + (v <= LOW && v >= LOW - 6 ? " finding " + (LOW - v) : ""), 1, Integer::sum);
            }
        }
        if (args.length > 2) {
            System.out.println(told);
        }
        System.out.println(bad == 0 ? runs + " runs are as the model's" : bad + " runs are not as the model's");
        if (bad != 0) {
            System.exit(1);
        }
    }
}
