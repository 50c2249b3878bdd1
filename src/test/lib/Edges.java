import java.nio.charset.StandardCharsets;
import java.util.ArrayList;
import java.util.List;

/**
 * What the tests of the edges share. Each sentence of the document that names an edge is a test of
 * its own. That a call changes nothing is looked at on two objects that were made alike, of which
 * one gets the call: all that they can tell then must be the same.
 */
final class Edges {
    static final int BEYOND = -1000001;
    static final int FULL = -1000002;
    static final int KIND = -1000003;
    static final int NONE = -1000004;
    static final int STATE = -1000005;
    static final int MISSING = -1000006;
    static final int SIZE = -1000007;

    static final int RIDER = 0;
    static final int DOUBTER = 1;
    static final int PROPHET = 2;
    static final int BANKER = 3;
    static final int SELLER = 4;
    static final int CHILD = 5;
    static final int SCEPTIC = 6;

    static final int ABOARD = -1;
    static final int TRAIN = 0;
    static final int NIGHT = 1;
    static final int GAIN = 2;
    static final int LOSS = 3;

    static final int MIN = Integer.MIN_VALUE;
    static final int MAX = Integer.MAX_VALUE;

    interface Scene {
        FaithRails made();
    }

    interface Call {
        long on(FaithRails x);
    }

    interface CallOf {
        long on(FaithRails x, int v);
    }

    private int sentences = 0;
    private int wrong = 0;

    /** The test of one sentence. */
    void sentence(String words, Runnable test) {
        sentences++;
        int before = wrong;
        test.run();
        if (wrong > before) {
            System.out.println("  so it doesn't hold: " + words);
        }
    }

    /** Ends the program: with 1, if a sentence didn't hold. */
    void end() {
        System.out.println(wrong == 0 ? sentences + " sentences hold" : wrong + " answers are not as due");
        if (wrong != 0) {
            System.exit(1);
        }
    }

    void due(String call, long got, long want) {
        if (got != want) {
            wrong++;
            System.out.println(call + " answered " + got + ", due is " + want);
        }
    }

    /** The call answers what is due, counts no finding and changes nothing. */
    void asked(Scene scene, String call, long want, Call act) {
        alone(scene, call, want, act, false);
    }

    /** The call answers the finding, counts it once, and changes nothing else. */
    void refused(Scene scene, String call, int finding, Call act) {
        alone(scene, call, finding, act, true);
    }

    void refused(Scene scene, String call, int finding, CallOf act, int... values) {
        for (int v : values) {
            refused(scene, call + " of " + v, finding, x -> act.on(x, v));
        }
    }

    /** From least to most the call is taken; below and above it is BEYOND. */
    void range(Scene scene, String call, int least, int most, CallOf act) {
        for (int v = least; v <= most; v++) {
            FaithRails x = scene.made();
            int findings = x.status(-1);
            act.on(x, v);
            due("findings behind " + call + " of " + v, x.status(-1), findings);
        }
        outside(scene, call, least, most, act);
    }

    /** Below least and above most the call is BEYOND. */
    void outside(Scene scene, String call, int least, int most, CallOf act) {
        refused(scene, call, BEYOND, act, least - 1, most + 1, MIN, MAX);
    }

    private void alone(Scene scene, String call, long want, Call act, boolean isFinding) {
        FaithRails got = scene.made();
        FaithRails spared = scene.made();
        due(call, act.on(got), want);
        for (int which = -1; which <= 6; which++) {
            boolean counts = isFinding && (which == -1 || which == BEYOND - want);
            due("status(" + which + ") behind " + call, got.status(which), spared.status(which) + (counts ? 1 : 0));
        }
        same(call, got, spared);
    }

    /** Both objects tell the same of themselves; they are used up by that. */
    void same(String call, FaithRails got, FaithRails spared) {
        List<String> gotTells = tale(got);
        List<String> sparedTells = tale(spared);
        if (!gotTells.equals(sparedTells)) {
            wrong++;
            int at = 0;
            while (at < gotTells.size() && at < sparedTells.size() && gotTells.get(at).equals(sparedTells.get(at))) {
                at++;
            }
            System.out.println(call + " changed the object: "
                    + (at < gotTells.size() ? gotTells.get(at) : "it tells less") + ", without it "
                    + (at < sparedTells.size() ? sparedTells.get(at) : "it tells less"));
        }
    }

    // ---- all that an object can tell

    private static List<String> tale(FaithRails x) {
        List<String> tale = new ArrayList<>();
        lineTells(x, tale);
        for (int s = 0; s < 4; s++) {
            sheetTells(x, s, tale);
        }
        tale.add("text " + x.text());
        tale.add("people by the text " + x.count(1));
        tale.add("day by the text " + x.now(5));
        needsTell(x, tale);
        tale.add("undo " + x.undo());
        lineTells(x, tale);
        tale.add("tear " + x.tear());
        return tale;
    }

    private static void lineTells(FaithRails x, List<String> tale) {
        for (int what = 0; what <= 6; what++) {
            tale.add("now(" + what + ") " + x.now(what));
        }
        for (int what = 0; what <= 7; what++) {
            tale.add("count(" + what + ") " + x.count(what));
        }
        needsTell(x, tale);
        for (int p = 0; p < x.count(1); p++) {
            for (int what = 0; what <= 3; what++) {
                tale.add("of(" + p + ", " + what + ") " + x.of(p, what));
            }
        }
        tale.add("gain " + x.set(GAIN, 1));
        tale.add("loss " + x.set(LOSS, 1));
        for (int spot = 0; spot < 10; spot++) {
            tale.add("spot " + spot + " " + x.as(spot, RIDER));
        }
    }

    private static void needsTell(FaithRails x, List<String> tale) {
        for (int k = 0; k < 16; k++) {
            tale.add("need " + k + " " + x.stretch(k, 0));
        }
    }

    /** Numbers come to the needs, sixteen at a time; then its bits show by what is left of a number. */
    private static void sheetTells(FaithRails x, int s, List<String> tale) {
        String sheet = "sheet " + s + " ";
        for (int from : new int[] {0, 16, 24}) {
            if (from > 0 && x.copy(s, from, s, 0, 16) != 16) {
                break;
            }
            int came = x.load(s);
            tale.add(sheet + "from " + from + ": " + came);
            for (int k = 0; k < came; k++) {
                tale.add(sheet + (from + k) + " " + x.stretch(k, 0));
            }
        }
        x.write(s, 0, 65536 + 256 + 5);
        tale.add(sheet + "load " + x.load(s));
        tale.add(sheet + "bits " + x.stretch(0, 0));
    }

    // ---- what the tests build on

    static FaithRails anew() {
        return new FaithRails();
    }

    /** An object of which each part is another than at first, and another than in its image. */
    static FaithRails busy() {
        FaithRails x = new FaithRails();
        add(x, CHILD, ABOARD, 70);
        add(x, SELLER, 2, 30);
        x.need(1, 61);
        x.seed(99);
        x.hold(8, 1);
        x.set(GAIN, 4);
        x.set(LOSS, 6);
        x.image();
        add(x, RIDER, ABOARD, 41);
        add(x, BANKER, 0, 99);
        add(x, SCEPTIC, 9, 0);
        needs(x, 3, 4, 20);
        x.set(TRAIN, 3);
        x.set(GAIN, 2);
        x.set(LOSS, 7);
        x.go(3);
        x.seed(12345);
        x.set(NIGHT, 1);
        x.hold(0, 0);
        x.hold(8, -1);
        x.hold(9, 4);
        sheet(x, 0, 8, 5, 100, 7);
        sheet(x, 1, 16, 900, 3);
        sheet(x, 2, 32, 999, 0, 12, 4);
        fed(x, "need 3 777;day;child");
        x.go(0);
        x.leave(3);
        x.load(3);
        return x;
    }

    /** An object with as many people, bytes and numbers as there can be. */
    static FaithRails full() {
        FaithRails x = new FaithRails();
        for (int i = 0; i < 8; i++) {
            add(x, i % 7, i - 1, 10 * i);
        }
        for (int s = 0; s < 10; s++) {
            x.hold(s, s % 8);
        }
        x.sheet(1, 16, 40);
        for (int i = 0; i < 40; i++) {
            x.write(1, i, 25 * i);
        }
        x.image();
        x.go(2);
        fed(x, " ".repeat(109) + "need 15 999");
        return x;
    }

    /**
     * A rider who believes 0 and a doubter who believes 99 wait where the train is. By sway they
     * bring t + (99 - t) / 2 to it behind t hours: 74 behind 49 hours, and less behind any other.
     * So the train goes on in the 50th hour, and all the way from there.
     */
    static FaithRails slow(int yard) {
        FaithRails x = new FaithRails();
        needs(x, 0, 15, 0);
        x.need(yard, 74);
        x.set(TRAIN, yard);
        add(x, RIDER, yard, 0);
        add(x, DOUBTER, yard, 99);
        return x;
    }

    /**
     * As slow at yard 5, with a doubter (24) and a sceptic (4) aboard, who do not change, and 10
     * needed at the end: only one who brings that far lets the train to yard 16 in the 60th hour.
     */
    static FaithRails slowToTheEnd() {
        FaithRails x = slow(5);
        x.need(5, 74 + 24 + 4);
        x.need(15, 10);
        x.set(GAIN, 0);
        x.set(LOSS, 0);
        add(x, DOUBTER, ABOARD, 49);
        add(x, SCEPTIC, ABOARD, 49);
        return x;
    }

    /** As slow at yard 5, but the rails are there in the 39th hour: sheet 0 tells that by its 40 numbers. */
    static FaithRails fortyYards() {
        FaithRails x = slow(5);
        x.need(5, 68);
        x.change(1, 2, 98);
        x.sheet(0, 8, 40);
        for (int i = 0; i < 39; i++) {
            x.write(0, i, 5);
        }
        x.write(0, 39, 6);
        return x;
    }

    /** The document leaves free what is answered behind 512 calls; only so late are there the last hours. */
    static FaithRails atHour(int hour) {
        FaithRails x = new FaithRails();
        for (int left = hour; left > 0; left -= 60) {
            x.go(Math.min(60, left));
        }
        return x;
    }

    /** One more of the people, with a belief. */
    static int add(FaithRails x, int kind, int where, int belief) {
        int number = x.person(kind, where);
        x.change(number, 2, belief);
        return number;
    }

    static void needs(FaithRails x, int from, int to, int need) {
        for (int k = from; k <= to; k++) {
            x.need(k, need);
        }
    }

    static void sheet(FaithRails x, int s, int bits, int... numbers) {
        x.sheet(s, bits, numbers.length);
        for (int i = 0; i < numbers.length; i++) {
            x.write(s, i, numbers[i]);
        }
    }

    /** The tape gets a text, up to four bytes a call. */
    static void fed(FaithRails x, String text) {
        byte[] bytes = text.getBytes(StandardCharsets.ISO_8859_1);
        for (int at = 0; at < bytes.length; at += 4) {
            int n = Math.min(4, bytes.length - at);
            int four = 0;
            for (int i = 0; i < n; i++) {
                four = four << 8 | bytes[at + i] & 255;
            }
            x.feed(four, n);
        }
    }

    static int told(FaithRails x, String text) {
        fed(x, text);
        return x.text();
    }
}
