import java.nio.charset.StandardCharsets;

/** For each promise of the document: ordinary calls, the edges that it names, and wrong calls. */
public final class FaithRailsPromisesTest {
    private static final int BEYOND = -1000001;
    private static final int FULL = -1000002;
    private static final int KIND = -1000003;
    private static final int NONE = -1000004;
    private static final int STATE = -1000005;
    private static final int MISSING = -1000006;
    private static final int SIZE = -1000007;

    private static final int RIDER = 0;
    private static final int DOUBTER = 1;
    private static final int PROPHET = 2;
    private static final int BANKER = 3;
    private static final int SELLER = 4;
    private static final int CHILD = 5;
    private static final int SCEPTIC = 6;

    private static final int TRAIN = 0;
    private static final int NIGHT = 1;
    private static final int GAIN = 2;
    private static final int LOSS = 3;

    private static int wrong = 0;

    private static void due(int promise, String call, long got, long want) {
        if (got != want) {
            wrong++;
            System.out.println("promise " + promise + ": " + call + " answered " + got + ", due is " + want);
        }
    }

    /** One more of the people, with a belief. */
    private static int add(FaithRails x, int kind, int where, int belief) {
        int number = x.person(kind, where);
        x.change(number, 2, belief);
        return number;
    }

    private static void needs(FaithRails x, int from, int to, int need) {
        for (int k = from; k <= to; k++) {
            x.need(k, need);
        }
    }

    private static int told(FaithRails x, String text) {
        for (byte b : text.getBytes(StandardCharsets.ISO_8859_1)) {
            x.feed(b, 1);
        }
        return x.text();
    }

    private static void sheet(FaithRails x, int s, int bits, int... numbers) {
        x.sheet(s, bits, numbers.length);
        for (int i = 0; i < numbers.length; i++) {
            x.write(s, i, numbers[i]);
        }
    }

    /** A rider of belief 60 aboard at yard 0: it comes to yard 3, where the need is 80. */
    private static FaithRails shortRide() {
        FaithRails x = new FaithRails();
        add(x, RIDER, -1, 60);
        needs(x, 3, 15, 80);
        return x;
    }

    // ---- the line, people

    private static void aNewObject() {
        FaithRails x = new FaithRails();
        for (int k = 0; k < 16; k++) {
            due(1, "stretch(k, 0)", x.stretch(k, 0), 50);
            due(1, "stretch(k, 1)", x.stretch(k, 1), 0);
        }
        for (int what = 0; what <= 6; what++) {
            due(1, "now(" + what + ")", x.now(what), 0);
        }
        for (int what = 0; what <= 7; what++) {
            due(1, "count(" + what + ")", x.count(what), what == 6 ? 1 : 0);
        }
        due(1, "set gain", x.set(GAIN, 0), 3);
        due(1, "set loss", x.set(LOSS, 0), 5);
        due(1, "set night", x.set(NIGHT, 0), 0);
        due(1, "tear", x.tear(), 0);
        for (int which = -1; which <= 6; which++) {
            due(1, "status(" + which + ")", x.status(which), 0);
        }
        for (int i = 0; i < 10; i++) {
            due(1, "as(i, 0)", x.as(i, 0), MISSING);
        }
        for (int s = 0; s < 4; s++) {
            due(1, "judge(s)", x.judge(s), MISSING);
        }
        due(1, "seed", x.seed(1), 1);
        due(1, "new person's belief", new FaithRails().person(0, 0), 0);
        FaithRails y = new FaithRails();
        y.person(RIDER, 0);
        due(1, "belief at first", y.of(0, 2), 50);
    }

    private static void need() {
        FaithRails x = new FaithRails();
        due(2, "need(0, 999)", x.need(0, 999), 50);
        due(2, "need(0, 0)", x.need(0, 0), 999);
        due(2, "need(15, 7)", x.need(15, 7), 50);
        due(2, "need(15, 8)", x.need(15, 8), 7);
        due(2, "need(0, 1)", x.need(0, 1), 0);
        due(2, "need(1, 1)", x.need(1, 1), 50);
        due(2, "need(-1, 5)", x.need(-1, 5), BEYOND);
        due(2, "need(16, 5)", x.need(16, 5), BEYOND);
        due(2, "need(2, -1)", x.need(2, -1), BEYOND);
        due(2, "need(2, 1000)", x.need(2, 1000), BEYOND);
        due(2, "need(min, max)", x.need(Integer.MIN_VALUE, Integer.MAX_VALUE), BEYOND);
        due(2, "stretch(2, 0)", x.stretch(2, 0), 50);
        due(2, "status(0)", x.status(0), 5);
    }

    private static void stretch() {
        FaithRails x = new FaithRails();
        add(x, RIDER, 5, 35);
        x.need(5, 35);
        due(3, "SUM nearest", x.stretch(5, 1), 35);
        due(3, "SUM behind", x.stretch(4, 1), 35);
        due(3, "SUM one off", x.stretch(6, 1), 25);
        due(3, "SUM one off before", x.stretch(3, 1), 25);
        due(3, "SUM three off", x.stretch(8, 1), 5);
        due(3, "SUM four off", x.stretch(9, 1), 0);
        due(3, "SUM far", x.stretch(15, 1), 0);
        due(3, "THERE as SUM is NEED", x.stretch(5, 2), 1);
        x.need(5, 36);
        due(3, "not THERE", x.stretch(5, 2), 0);
        due(3, "NEED", x.stretch(5, 0), 36);
        add(x, SCEPTIC, -1, 10);
        due(3, "SUM with a faith below 0 aboard", x.stretch(5, 1), 20);
        due(3, "SUM with a faith below 0 alone", x.stretch(15, 1), -15);
        x.need(15, 0);
        due(3, "not THERE below 0", x.stretch(15, 2), 0);
        x.change(1, 1, 15);
        due(3, "a faith below 0 that waits brings 0", x.stretch(15, 1), 0);
        due(3, "THERE of NEED 0", x.stretch(15, 2), 1);
        due(3, "stretch(-1, 0)", x.stretch(-1, 0), BEYOND);
        due(3, "stretch(16, 0)", x.stretch(16, 0), BEYOND);
        due(3, "stretch(0, -1)", x.stretch(0, -1), BEYOND);
        due(3, "stretch(0, 3)", x.stretch(0, 3), BEYOND);
    }

    private static void person() {
        FaithRails x = new FaithRails();
        due(4, "person(7, 0)", x.person(7, 0), BEYOND);
        due(4, "person(-1, 0)", x.person(-1, 0), BEYOND);
        due(4, "person(0, 17)", x.person(0, 17), BEYOND);
        due(4, "person(0, -2)", x.person(0, -2), BEYOND);
        int[] where = {-1, 0, 16, 3, 4, 5, 6, 7};
        for (int i = 0; i < 8; i++) {
            due(4, "person", x.person(i % 7, where[i]), i);
        }
        for (int i = 0; i < 8; i++) {
            due(4, "KIND", x.of(i, 0), i % 7);
            due(4, "WHERE", x.of(i, 1), where[i]);
            due(4, "BELIEF", x.of(i, 2), 50);
        }
        due(4, "a ninth", x.person(0, 0), FULL);
        due(4, "a ninth that is beyond, too", x.person(7, 0), BEYOND);
        due(4, "PEOPLE", x.count(1), 8);
    }

    private static void of() {
        FaithRails x = new FaithRails();
        add(x, RIDER, 1, 41);
        add(x, DOUBTER, 2, 41);
        add(x, PROPHET, 3, 41);
        add(x, BANKER, 4, 41);
        add(x, SELLER, 5, 41);
        add(x, CHILD, 6, 41);
        add(x, SCEPTIC, 7, 41);
        add(x, SCEPTIC, 7, 3);
        int[] day = {41, 20, 61, 61, 61, 41, 0, -19};
        int[] dark = {41, 20, 41, 41, 41, 82, 0, -19};
        for (int i = 0; i < 8; i++) {
            due(5, "FAITH by day of " + i, x.of(i, 3), day[i]);
        }
        x.set(NIGHT, 1);
        for (int i = 0; i < 8; i++) {
            due(5, "FAITH by night of " + i, x.of(i, 3), dark[i]);
        }
        x.set(NIGHT, 0);
        x.need(0, 999);
        x.go(7);
        due(5, "a banker behind 7 falls", x.of(3, 3), 54);
        due(5, "a seller behind 7 falls", x.of(4, 3), 54);
        due(5, "a prophet behind 7 falls", x.of(2, 3), 61);
        x.go(22);
        due(5, "a banker behind 29 falls", x.of(3, 3), 32);
        x.go(1);
        due(5, "a banker behind 30 falls", x.of(3, 3), 31);
        x.go(60);
        due(5, "a banker behind 90 falls", x.of(3, 3), 31);
        x.change(4, 1, 7);
        due(5, "a seller among two", x.of(4, 3), 41);
        x.change(0, 1, -1);
        x.change(1, 1, -1);
        x.change(4, 1, -1);
        due(5, "a seller aboard among two", x.of(4, 3), 41);
        x.set(TRAIN, 7);
        due(5, "aboard isn't at the train's yard", x.of(4, 3), 41);
        due(5, "WHERE aboard", x.of(4, 1), -1);
        due(5, "of(8, 0)", x.of(8, 0), BEYOND);
        due(5, "of(-1, 0)", x.of(-1, 0), BEYOND);
        due(5, "of(0, 4)", x.of(0, 4), BEYOND);
        due(5, "of(0, -1)", x.of(0, -1), BEYOND);
        due(5, "of of nobody", new FaithRails().of(0, 0), BEYOND);
    }

    private static void change() {
        FaithRails x = new FaithRails();
        x.person(SELLER, 9);
        due(6, "KIND", x.change(0, 0, 6), 4);
        due(6, "KIND again", x.change(0, 0, 0), 6);
        due(6, "WHERE", x.change(0, 1, -1), 9);
        due(6, "WHERE aboard", x.change(0, 1, 16), -1);
        due(6, "BELIEF", x.change(0, 2, 99), 50);
        due(6, "BELIEF again", x.change(0, 2, 0), 99);
        due(6, "kind 7", x.change(0, 0, 7), BEYOND);
        due(6, "kind -1", x.change(0, 0, -1), BEYOND);
        due(6, "yard 17", x.change(0, 1, 17), BEYOND);
        due(6, "yard -2", x.change(0, 1, -2), BEYOND);
        due(6, "belief 100", x.change(0, 2, 100), BEYOND);
        due(6, "belief -1", x.change(0, 2, -1), BEYOND);
        due(6, "what 3", x.change(0, 3, 0), BEYOND);
        due(6, "what -1", x.change(0, -1, 0), BEYOND);
        due(6, "person 1", x.change(1, 0, 0), BEYOND);
        due(6, "person -1", x.change(-1, 0, 0), BEYOND);
        due(6, "kind then", x.of(0, 0), 0);
        due(6, "where then", x.of(0, 1), 16);
        due(6, "belief then", x.of(0, 2), 0);
        due(6, "findings", x.status(0), 10);
    }

    private static void set() {
        FaithRails x = new FaithRails();
        due(7, "train", x.set(TRAIN, 16), 0);
        due(7, "train again", x.set(TRAIN, 0), 16);
        due(7, "night", x.set(NIGHT, 1), 0);
        due(7, "night again", x.set(NIGHT, 0), 1);
        due(7, "gain", x.set(GAIN, 20), 3);
        due(7, "gain again", x.set(GAIN, 0), 20);
        due(7, "loss", x.set(LOSS, 20), 5);
        due(7, "loss again", x.set(LOSS, 0), 20);
        for (int what = 0; what < 4; what++) {
            due(7, "set(" + what + ", -1)", x.set(what, -1), BEYOND);
            due(7, "set(" + what + ", most + 1)", x.set(what, new int[] {17, 2, 21, 21}[what]), BEYOND);
        }
        due(7, "set(4, 0)", x.set(4, 0), BEYOND);
        due(7, "set(-1, 0)", x.set(-1, 0), BEYOND);
        x.person(0, 0);
        x.change(0, 1, -1);
        x.set(TRAIN, 5);
        due(7, "those aboard stay aboard", x.of(0, 1), -1);
        due(7, "train then", x.now(1), 5);
        due(7, "night then", x.now(5), 0);
    }

    private static void boardAndLeave() {
        FaithRails x = new FaithRails();
        x.person(0, 0);
        x.person(0, 1);
        due(8, "board(0)", x.board(0), 1);
        due(8, "aboard", x.of(0, 1), -1);
        due(8, "board(0) again", x.board(0), STATE);
        due(8, "board(1)", x.board(1), STATE);
        due(8, "still waits", x.of(1, 1), 1);
        due(8, "board(2)", x.board(2), BEYOND);
        due(8, "board(-1)", x.board(-1), BEYOND);
        x.set(TRAIN, 4);
        due(9, "leave(0)", x.leave(0), 4);
        due(9, "waits there", x.of(0, 1), 4);
        due(9, "leave(0) again", x.leave(0), STATE);
        due(9, "leave(1)", x.leave(1), STATE);
        due(9, "leave(2)", x.leave(2), BEYOND);
        due(9, "leave(-1)", x.leave(-1), BEYOND);
        due(9, "waits still", x.of(1, 1), 1);
        x.set(TRAIN, 16);
        x.change(0, 1, -1);
        due(9, "leave(0) at the last yard", x.leave(0), 16);
    }

    // ---- hours

    private static void go() {
        FaithRails x = shortRide();
        due(10, "go(1)", x.go(1), 1);
        due(10, "gain", x.of(0, 2), 63);
        due(10, "go(2)", x.go(2), 3);
        due(10, "gain again", x.of(0, 2), 69);
        due(10, "go(1) short", x.go(1), 3);
        due(10, "loss", x.of(0, 2), 64);
        due(10, "FALLS", x.now(4), 1);
        due(10, "HOUR", x.now(0), 4);
        due(10, "go(60)", x.go(60), 3);
        due(10, "belief isn't below 0", x.of(0, 2), 0);
        due(10, "FALLS", x.now(4), 61);
        due(10, "HOUR", x.now(0), 64);
        due(10, "go(0)", x.go(0), BEYOND);
        due(10, "go(-1)", x.go(-1), BEYOND);
        due(10, "go(61)", x.go(61), BEYOND);
        due(10, "HOUR still", x.now(0), 64);
        goFar();
        goSwaying();
    }

    private static void goFar() {
        FaithRails x = new FaithRails();
        add(x, RIDER, -1, 60);
        add(x, RIDER, 16, 40);
        x.set(GAIN, 20);
        due(10, "go(15)", x.go(15), 15);
        due(10, "belief isn't above 99", x.of(0, 2), 99);
        due(10, "one who waits gains nothing", x.of(1, 2), 40);
        due(10, "go(5)", x.go(5), 16);
        due(10, "go(5) at the end", x.go(5), 16);
        due(10, "no falls at the end", x.now(4), 0);
        due(10, "HOUR", x.now(0), 25);
        due(10, "belief at the end", x.of(0, 2), 99);
    }

    private static void goSwaying() {
        FaithRails x = new FaithRails();
        needs(x, 0, 15, 0);
        x.set(GAIN, 2);
        add(x, RIDER, -1, 10);
        add(x, RIDER, -1, 20);
        add(x, RIDER, -1, 15);
        add(x, RIDER, 3, 10);
        add(x, RIDER, 3, 11);
        add(x, RIDER, 0, 70);
        x.go(1);
        int[] then = {13, 21, 17, 10, 10, 70};
        for (int i = 0; i < 6; i++) {
            due(10, "sway of " + i, x.of(i, 2), then[i]);
        }
        x.set(TRAIN, 16);
        x.go(1);
        int[] atTheEnd = {14, 20, 17, 10, 10, 70};
        for (int i = 0; i < 6; i++) {
            due(10, "sway at the last yard of " + i, x.of(i, 2), atTheEnd[i]);
        }
    }

    private static void now() {
        FaithRails x = shortRide();
        x.person(RIDER, 9);
        x.person(RIDER, -1);
        x.set(NIGHT, 1);
        due(11, "who is aboard", x.now(2), 0b101);
        x.change(2, 2, 0);
        x.change(1, 2, 30);
        due(11, "what is there", x.now(3), 0b0000_0111_1000_0111);
        due(11, "belief of all", x.now(6), 90);
        due(11, "night", x.now(5), 1);
        x.leave(2);
        x.go(4);
        due(11, "hour", x.now(0), 4);
        due(11, "yard", x.now(1), 3);
        due(11, "falls", x.now(4), 1);
        due(11, "now(7)", x.now(7), BEYOND);
        due(11, "now(-1)", x.now(-1), BEYOND);
        FaithRails y = new FaithRails();
        needs(y, 0, 15, 0);
        due(11, "all stretches", y.now(3), 65535);
    }

    // ---- what will be

    private static void whatWillBe() {
        FaithRails x = shortRide();
        due(12, "ahead(0)", x.ahead(0), 0);
        due(12, "ahead(2)", x.ahead(2), 2);
        due(12, "ahead(100)", x.ahead(100), 3);
        due(12, "ahead(-1)", x.ahead(-1), BEYOND);
        due(12, "ahead(101)", x.ahead(101), BEYOND);
        due(13, "believes(0, 0)", x.believes(0, 0), 60);
        due(13, "believes(0, 3)", x.believes(0, 3), 69);
        due(13, "believes(0, 4)", x.believes(0, 4), 64);
        due(13, "believes(0, 100)", x.believes(0, 100), 0);
        due(13, "believes(0, -1)", x.believes(0, -1), BEYOND);
        due(13, "believes(0, 101)", x.believes(0, 101), BEYOND);
        due(13, "believes(1, 0)", x.believes(1, 0), BEYOND);
        due(13, "believes(-1, 0)", x.believes(-1, 0), BEYOND);
        due(14, "when(0)", x.when(0), 0);
        due(14, "when(3)", x.when(3), 3);
        due(14, "when(4)", x.when(4), NONE);
        due(14, "when(17)", x.when(17), BEYOND);
        due(14, "when(-1)", x.when(-1), BEYOND);
        due(15, "falls()", x.falls(), 3);
        due(16, "settles()", x.settles(), 17);
        due(17, "there(0)", x.there(0), 0b111);
        due(17, "there(3)", x.there(3), 0b111);
        due(17, "there(7)", x.there(7), 0);
        due(17, "there(100)", x.there(100), 0);
        due(17, "there(-1)", x.there(-1), BEYOND);
        due(17, "there(101)", x.there(101), BEYOND);
        due(12, "nothing changed: hour", x.now(0), 0);
        due(12, "nothing changed: yard", x.now(1), 0);
        due(12, "nothing changed: falls", x.now(4), 0);
        due(12, "nothing changed: belief", x.now(6), 60);
        lateHours();
    }

    private static void lateHours() {
        FaithRails x = new FaithRails();
        needs(x, 0, 15, 0);
        x.set(TRAIN, 2);
        due(14, "a yard that is behind", x.when(1), NONE);
        due(14, "the last yard", x.when(16), 14);
        due(15, "never short", x.falls(), NONE);
        due(16, "settles at the last yard", x.settles(), 14);
        FaithRails y = new FaithRails();
        y.set(TRAIN, 16);
        add(y, RIDER, 3, 0);
        add(y, RIDER, 3, 99);
        due(16, "settles as all agree", y.settles(), 50);
        due(15, "never short at the last yard", y.falls(), NONE);
        // Nothing aboard is lost, and those who wait alone do not sway: nothing will ever change.
        FaithRails z = new FaithRails();
        z.set(LOSS, 0);
        add(z, RIDER, -1, 50);
        add(z, RIDER, 5, 0);
        z.need(0, 51);
        due(14, "never", z.when(1), NONE);
        due(16, "at once", z.settles(), 0);
        manyHours();
    }

    private static void manyHours() {
        FaithRails x = new FaithRails();
        add(x, RIDER, -1, 99);
        add(x, RIDER, -1, 0);
        x.set(GAIN, 0);
        needs(x, 0, 15, 0);
        x.set(TRAIN, 15);
        due(14, "one hour", x.when(16), 1);
        // Their mean stays 49: the one from 0 is there behind 49 hours, the one from 99 behind 50.
        due(16, "fifty hours", x.settles(), 50);
        FaithRails y = new FaithRails();
        y.set(LOSS, 1);
        add(y, RIDER, -1, 99);
        add(y, RIDER, -1, 98);
        y.need(0, 999);
        // The mean is cut, so the sway takes them together; then it is one less an hour.
        due(16, "till belief is 0", y.settles(), 98);
        y.set(LOSS, 0);
        due(16, "till they agree", y.settles(), 1);
        // An hour on the rails, and 99 till nothing is believed any more: 100 are just in sight.
        FaithRails z = new FaithRails();
        z.set(GAIN, 0);
        z.set(LOSS, 1);
        add(z, RIDER, -1, 99);
        needs(z, 1, 15, 999);
        due(16, "behind 100 hours", z.settles(), 100);
        due(13, "behind 99 hours", z.believes(0, 99), 1);
        due(13, "behind 100 hours", z.believes(0, 100), 0);
        z.need(1, 0);
        due(16, "behind 101 hours", z.settles(), NONE);
        due(13, "behind 100 hours", z.believes(0, 100), 1);
        z.need(3, 0);
        due(17, "behind 100 hours", z.there(100), 0b1010);
    }

    private static void kindFor() {
        FaithRails x = new FaithRails();
        add(x, RIDER, -1, 40);
        due(18, "a prophet goes all the way, and so would a banker", x.kindFor(0, 60), PROPHET);
        due(18, "in no hours", x.kindFor(0, 0), RIDER);
        x.set(NIGHT, 1);
        due(18, "a child by night", x.kindFor(0, 10), CHILD);
        x.change(0, 2, 0);
        due(18, "none", x.kindFor(0, 60), RIDER);
        due(18, "kind still", x.of(0, 0), RIDER);
        due(18, "kindFor(1, 0)", x.kindFor(1, 0), BEYOND);
        due(18, "kindFor(-1, 0)", x.kindFor(-1, 0), BEYOND);
        due(18, "kindFor(0, 61)", x.kindFor(0, 61), BEYOND);
        due(18, "kindFor(0, -1)", x.kindFor(0, -1), BEYOND);
    }

    // ---- who should ride

    private static FaithRails crowd() {
        FaithRails x = new FaithRails();
        add(x, RIDER, 9, 20);
        add(x, RIDER, -1, 45);
        add(x, RIDER, 3, 60);
        x.set(GAIN, 0);
        x.set(LOSS, 0);
        return x;
    }

    private static void with() {
        FaithRails x = crowd();
        // Three who wait at yard 0 bring 125, 95, 65, 45 to stretches 0 to 3, but for their sway.
        due(19, "with nobody", x.with(0, 60), 3);
        due(19, "with nobody in 2 hours", x.with(0, 2), 2);
        due(19, "with nobody in no hours", x.with(0, 0), 0);
        due(19, "with one and those who wait", x.with(0b100, 60), 16);
        due(19, "with the least", x.with(0b001, 60), 4);
        due(19, "with all", x.with(0b111, 60), 16);
        due(19, "with(8, 0)", x.with(8, 0), BEYOND);
        due(19, "with(-1, 0)", x.with(-1, 0), BEYOND);
        due(19, "with(min, 0)", x.with(Integer.MIN_VALUE, 0), BEYOND);
        due(19, "with(0, 61)", x.with(0, 61), BEYOND);
        due(19, "with(0, -1)", x.with(0, -1), BEYOND);
        due(19, "nobody moved", x.of(0, 1), 9);
        due(19, "nobody moved", x.now(2), 0b010);
    }

    private static void fewestAndFarthest() {
        FaithRails x = crowd();
        due(20, "nobody need ride", x.fewest(3, 60), 0);
        due(20, "one", x.fewest(16, 60), 0b100);
        due(20, "one, in too few hours", x.fewest(16, 15), NONE);
        due(20, "one, in just enough hours", x.fewest(16, 16), 0b100);
        due(21, "farthest", x.farthest(60), 0b011);
        due(21, "farthest in 1 hour", x.farthest(1), 0);
        due(21, "farthest in no hours", x.farthest(0), 0);
        due(20, "fewest before least", x.fewest(6, 60), 0b010);
        x.need(9, 120);
        due(20, "all", x.fewest(16, 60), 0b111);
        x.need(9, 121);
        due(20, "not even all", x.fewest(16, 60), NONE);
        x.set(TRAIN, 5);
        due(20, "beyond it already", x.fewest(3, 0), 0);
        due(20, "fewest(17, 0)", x.fewest(17, 0), BEYOND);
        due(20, "fewest(-1, 0)", x.fewest(-1, 0), BEYOND);
        due(20, "fewest(0, 61)", x.fewest(0, 61), BEYOND);
        due(20, "fewest(0, -1)", x.fewest(0, -1), BEYOND);
        due(21, "farthest(61)", x.farthest(61), BEYOND);
        due(21, "farthest(-1)", x.farthest(-1), BEYOND);
        due(21, "nobody moved", x.now(2), 0b010);
    }

    private static void without() {
        FaithRails x = new FaithRails();
        due(22, "nobody", x.without(0), NONE);
        add(x, RIDER, 0, 50);
        due(22, "nobody aboard", x.without(60), NONE);
        add(x, RIDER, -1, 60);
        add(x, SCEPTIC, -1, 2);
        add(x, RIDER, -1, 5);
        x.set(GAIN, 0);
        due(22, "one had better leave the sceptic", x.without(60), 2);
        due(22, "in no hours", x.without(0), 1);
        due(22, "without(61)", x.without(61), BEYOND);
        due(22, "without(-1)", x.without(-1), BEYOND);
        due(22, "all aboard still", x.now(2), 0b1110);
        due(22, "without(-1) of nobody", new FaithRails().without(-1), BEYOND);
        // The one who is left waits where the train is, and is believed in from there.
        FaithRails y = new FaithRails();
        add(y, RIDER, -1, 30);
        add(y, RIDER, -1, 20);
        y.set(GAIN, 0);
        y.set(LOSS, 0);
        y.need(0, 50);
        y.need(1, 50);
        due(22, "it waits at the train's yard", y.without(1), 0);
        y.need(2, 45);
        due(22, "who waits counts less farther on", y.without(60), 0);
    }

    private static void persuade() {
        FaithRails x = new FaithRails();
        add(x, RIDER, -1, 0);
        due(23, "just enough", x.persuade(0, 16, 60), 50);
        due(23, "to where it is", x.persuade(0, 0, 0), 0);
        due(23, "too few hours", x.persuade(0, 16, 15), NONE);
        due(23, "hours enough", x.persuade(0, 16, 16), 50);
        x.need(2, 99);
        due(23, "gain helps", x.persuade(0, 16, 60), 93);
        x.set(GAIN, 0);
        due(23, "the greatest", x.persuade(0, 16, 60), 99);
        x.need(2, 999);
        due(23, "never", x.persuade(0, 3, 60), NONE);
        due(23, "past it on the way", x.persuade(0, 1, 60), 50);
        due(23, "belief still", x.of(0, 2), 0);
        due(23, "persuade(1, 0, 0)", x.persuade(1, 0, 0), BEYOND);
        due(23, "persuade(-1, 0, 0)", x.persuade(-1, 0, 0), BEYOND);
        due(23, "persuade(0, 17, 0)", x.persuade(0, 17, 0), BEYOND);
        due(23, "persuade(0, -1, 0)", x.persuade(0, -1, 0), BEYOND);
        due(23, "persuade(0, 0, 61)", x.persuade(0, 0, 61), BEYOND);
        due(23, "persuade(0, 0, -1)", x.persuade(0, 0, -1), BEYOND);
    }

    private static void bears() {
        FaithRails x = new FaithRails();
        add(x, RIDER, -1, 60);
        due(24, "the first stretch", x.bears(0, 1), 60);
        due(24, "the third, with gain", x.bears(2, 3), 66);
        due(24, "the third, in too few hours", x.bears(2, 2), NONE);
        due(24, "in no hours", x.bears(0, 0), NONE);
        x.need(1, 62);
        due(24, "its own need doesn't count", x.bears(1, 2), 63);
        x.need(1, 64);
        due(24, "another's need does", x.bears(2, 60), NONE);
        due(24, "need still", x.stretch(1, 0), 64);
        x.set(TRAIN, 9);
        due(24, "one that is behind", x.bears(8, 0), 999);
        due(24, "bears(-1, 0)", x.bears(-1, 0), BEYOND);
        due(24, "bears(16, 0)", x.bears(16, 0), BEYOND);
        due(24, "bears(0, -1)", x.bears(0, -1), BEYOND);
        due(24, "bears(0, 61)", x.bears(0, 61), BEYOND);
        FaithRails y = new FaithRails();
        due(24, "nobody", y.bears(0, 60), 0);
        add(y, SCEPTIC, -1, 20);
        due(24, "less than nobody", y.bears(0, 60), NONE);
        FaithRails z = new FaithRails();
        add(z, CHILD, 0, 20);
        add(z, SCEPTIC, 0, 60);
        due(24, "in one hour", z.bears(0, 1), 30);
        // Behind 20 hours both believe 40: the child brings more then than the sceptic brings less.
        due(24, "by sway, later", z.bears(0, 60), 40);
        z.need(0, 10);
        due(24, "its own need doesn't count, later", z.bears(0, 60), 40);
        FaithRails many = new FaithRails();
        many.set(NIGHT, 1);
        for (int i = 0; i < 8; i++) {
            add(many, CHILD, -1, 99);
        }
        due(24, "999 at most", many.bears(0, 1), 999);
    }

    private static void seat() {
        FaithRails x = new FaithRails();
        add(x, RIDER, -1, 60);
        needs(x, 0, 15, 0);
        x.need(9, 60);
        due(25, "at the stretch", x.seat(0, 60), 9);
        due(25, "in too few hours", x.seat(0, 9), 0);
        x.need(9, 61);
        due(25, "of no use", x.seat(0, 60), 0);
        x.need(9, 0);
        x.need(15, 60);
        due(25, "at its near yard", x.seat(0, 60), 15);
        x.need(15, 50);
        due(25, "one yard before that", x.seat(0, 60), 14);
        due(25, "where still", x.of(0, 1), -1);
        due(25, "seat(1, 0)", x.seat(1, 0), BEYOND);
        due(25, "seat(-1, 0)", x.seat(-1, 0), BEYOND);
        due(25, "seat(0, 61)", x.seat(0, 61), BEYOND);
        due(25, "seat(0, -1)", x.seat(0, -1), BEYOND);
        // A seller who waits at the last yard is short of company.
        FaithRails y = new FaithRails();
        y.set(TRAIN, 15);
        add(y, RIDER, -1, 0);
        add(y, SELLER, 16, 25);
        due(25, "at the last yard", y.seat(0, 1), 16);
    }

    // ---- whose doubt

    private static void doubt() {
        FaithRails x = new FaithRails();
        add(x, RIDER, -1, 40);
        due(26, "missing", x.kinds(0, 0), MISSING);
        due(27, "missing", x.beliefs(0, 0), MISSING);
        due(28, "missing", x.least(0, 0), MISSING);
        due(26, "missing before no such one", x.kinds(0, 9), MISSING);
        due(27, "missing before no such one", x.beliefs(0, 9), MISSING);
        due(28, "missing before no such one", x.least(0, 9), MISSING);
        for (int s = -1; s <= 4; s += 5) {
            due(26, "no such sheet", x.kinds(s, 0), BEYOND);
            due(27, "no such sheet", x.beliefs(s, 0), BEYOND);
            due(28, "no such sheet", x.least(s, 0), BEYOND);
        }
        sheet(x, 0, 8, 0, 1, 2);
        due(26, "those who'd get it on", x.kinds(0, 0), 1 << PROPHET | 1 << BANKER | 1 << SELLER);
        due(27, "those that would", x.beliefs(0, 0), 50);
        due(28, "the least", x.least(0, 0), 50);
        sheet(x, 0, 16, 0, 0, 0);
        due(26, "those who wouldn't", x.kinds(0, 0), 1 << RIDER | 1 << DOUBTER | 1 << CHILD | 1 << SCEPTIC);
        due(27, "those that wouldn't", x.beliefs(0, 0), 50);
        due(28, "the least", x.least(0, 0), 0);
        sheet(x, 0, 32, -1, -1, 2);
        due(26, "any yard", x.kinds(0, 0), 1 << PROPHET | 1 << BANKER | 1 << SELLER);
        due(27, "any yard", x.beliefs(0, 0), 50);
        due(28, "any yard", x.least(0, 0), 50);
        sheet(x, 0, 8, 255, 255, 0);
        due(26, "255 of 8 bits", x.kinds(0, 0), 1 << RIDER | 1 << DOUBTER | 1 << CHILD | 1 << SCEPTIC);
        sheet(x, 0, 8, -1, -2);
        due(26, "-2 is no yard", x.kinds(0, 0), 0);
        due(27, "-2 is no yard", x.beliefs(0, 0), 0);
        due(28, "-2 is no yard", x.least(0, 0), NONE);
        x.sheet(0, 8, 0);
        due(26, "an empty sheet", x.kinds(0, 0), 127);
        due(27, "an empty sheet", x.beliefs(0, 0), 100);
        due(28, "an empty sheet", x.least(0, 0), 0);
        for (int p = -1; p <= 1; p += 2) {
            due(26, "no such one", x.kinds(0, p), BEYOND);
            due(27, "no such one", x.beliefs(0, p), BEYOND);
            due(28, "no such one", x.least(0, p), BEYOND);
        }
        x.need(1, 60);
        sheet(x, 3, 32, 0, 1, 1);
        due(27, "between", x.beliefs(3, 0), 7);
        due(28, "between", x.least(3, 0), 50);
        x.need(0, 99);
        sheet(x, 3, 32, 0, 1, 2);
        due(27, "the greatest alone", x.beliefs(3, 0), 1);
        due(28, "the greatest alone", x.least(3, 0), 99);
        due(26, "kind still", x.of(0, 0), RIDER);
        due(27, "belief still", x.of(0, 2), 40);
        due(28, "hour still", x.now(0), 0);
    }

    // ---- bankers, gold

    private static void bankers() {
        FaithRails x = new FaithRails();
        due(29, "nothing", x.worth(), 0);
        add(x, RIDER, 0, 60);
        due(29, "two", x.worth(), 100);
        x.need(0, 7);
        x.need(9, 0);
        due(29, "one less, and one of 0", x.worth(), 57);
        due(30, "hangs(0)", x.hangs(0), 2);
        add(x, RIDER, 0, 7);
        due(30, "what another brings is enough for one", x.hangs(0), 1);
        due(30, "hangs on no one", x.hangs(1), 0);
        due(30, "hangs(2)", x.hangs(2), BEYOND);
        due(30, "hangs(-1)", x.hangs(-1), BEYOND);
        due(31, "both", x.run(), 0b11);
        x.need(0, 50);
        due(31, "one is enough", x.run(), 0b01);
        due(31, "nobody", new FaithRails().run(), 0);
        FaithRails z = new FaithRails();
        needs(z, 0, 15, 0);
        z.person(RIDER, -1);
        due(31, "needs of 0 don't count", z.run(), 0);
        due(29, "all of 0", z.worth(), 0);
        z.need(7, 1);
        due(31, "a need of 1 does", z.run(), 1);
        FaithRails one = new FaithRails();
        add(one, RIDER, -1, 1);
        add(one, RIDER, -1, 49);
        due(31, "one less than the need", one.run(), 1);
        leastOfSeveral();
    }

    private static void leastOfSeveral() {
        FaithRails x = new FaithRails();
        for (int i = 0; i < 3; i++) {
            add(x, RIDER, -1, 20);
        }
        due(31, "any of three: the least", x.run(), 0b001);
        add(x, RIDER, -1, 40);
        // Of 100 in all, 60 stay without the last, 40 without any other, too.
        due(31, "the least of the pairs", x.run(), 0b1001);
        // A seller's bonus stays as it is when its company is gone.
        FaithRails y = new FaithRails();
        add(y, SELLER, -1, 30);
        add(y, RIDER, -1, 1);
        needs(y, 0, 15, 55);
        due(30, "others bring what they bring", y.hangs(1), 0);
        due(30, "the seller's", y.hangs(0), 16);
        needs(y, 0, 15, 56);
        due(30, "both are needed", y.hangs(1), 16);
        due(31, "either", y.run(), 0b01);
        // Without one who brings less than nothing there is more.
        FaithRails z = new FaithRails();
        add(z, SCEPTIC, -1, 0);
        add(z, RIDER, -1, 70);
        due(30, "less than nothing", z.hangs(0), 0);
        due(31, "not that one", z.run(), 0b10);
    }

    private static void gold() {
        FaithRails x = new FaithRails();
        x.seed(1);
        // 1103527590 >>> 8 = 4310654, which leaves 14 by 16.
        due(32, "gold(1)", x.gold(1), 0);
        due(32, "the need drawn", x.stretch(14, 0), 40);
        due(32, "z", x.count(6), 1103527590);
        due(32, "an hour went by", x.now(0), 1);
        due(32, "it fell short", x.now(4), 1);
        x.need(14, 9);
        x.seed(1);
        x.gold(1);
        due(32, "not below 0", x.stretch(14, 0), 0);
        x.set(TRAIN, 14);
        due(32, "gold(1) at a need of 0", x.gold(1), 15);
        due(32, "gold(20)", x.gold(20), x.now(1));
        due(32, "hours", x.now(0), 23);
        due(32, "gold(0)", x.gold(0), BEYOND);
        due(32, "gold(21)", x.gold(21), BEYOND);
        due(32, "gold(-1)", x.gold(-1), BEYOND);
        due(32, "hours still", x.now(0), 23);
        // The draw comes before its hour.
        FaithRails y = new FaithRails();
        y.set(TRAIN, 14);
        y.need(14, 10);
        due(32, "the draw comes first", y.gold(1), 15);
        // A z below 0: its sign is no sign of the draw.
        FaithRails z = new FaithRails();
        z.seed(-2);
        int next = -2 * 1103515245 + 12345;
        z.gold(1);
        due(32, "z below 0", z.count(6), next);
        due(32, "the stretch of a z below 0", z.stretch((next >>> 8) % 16, 0), 40);
    }

    private static void oddsAndSeed() {
        FaithRails x = new FaithRails();
        due(33, "none there", x.odds(1, 0), 0);
        due(33, "none there, below", x.odds(1, 1), 1);
        due(33, "no draws", x.odds(0, 0), 1);
        due(33, "no draws, below", x.odds(0, 1), 1);
        needs(x, 0, 2, 0);
        due(33, "3 of 16", x.odds(2, 0), 9);
        due(33, "3 of 16, below", x.odds(2, 1), 256);
        due(33, "3 of 16, 14 times", x.odds(14, 0), 4782969L);
        due(33, "3 of 16, 14 times, below", x.odds(14, 1), 1L << 56);
        needs(x, 0, 11, 0);
        due(33, "12 of 16", x.odds(3, 0), 27);
        due(33, "12 of 16, below", x.odds(3, 1), 64);
        needs(x, 0, 14, 0);
        due(33, "15 of 16, 14 times", x.odds(14, 0), 29192926025390625L);
        needs(x, 0, 15, 0);
        due(33, "all", x.odds(14, 0), 1);
        due(33, "all, below", x.odds(14, 1), 1);
        due(33, "odds(15, 0)", x.odds(15, 0), BEYOND);
        due(33, "odds(-1, 0)", x.odds(-1, 0), BEYOND);
        due(33, "odds(0, 2)", x.odds(0, 2), BEYOND);
        due(33, "odds(0, -1)", x.odds(0, -1), BEYOND);
        due(33, "odds' findings", x.status(0), 4);
        due(34, "seed(5)", x.seed(5), 1);
        due(34, "seed(min)", x.seed(Integer.MIN_VALUE), 5);
        due(34, "seed(-1000001)", x.seed(-1000001), Integer.MIN_VALUE);
        due(34, "seed(0)", x.seed(0), -1000001);
        due(34, "z", x.count(6), 0);
        due(34, "no finding", x.status(-1), 4);
    }

    // ---- texts

    private static void tape() {
        FaithRails x = new FaithRails();
        due(35, "feed n 0", x.feed(0, 0), BEYOND);
        due(35, "feed n 5", x.feed(0, 5), BEYOND);
        due(35, "feed n -1", x.feed(0, -1), BEYOND);
        due(35, "two bytes of three", x.feed(0x007864, 1), 1);
        due(35, "highest first", x.feed(0x7a6179, 2), 3);
        due(35, "it is a day", x.text(), 1);
        for (int i = 1; i <= 29; i++) {
            due(35, "four more", x.feed(0x20202020, 4), 4 * i);
        }
        due(35, "three more", x.feed(0x202020, 3), 119);
        due(35, "two too many", x.feed(0x2020, 2), FULL);
        due(35, "the last", x.feed(0x20, 1), 120);
        due(35, "one too many", x.feed(0x20, 1), FULL);
        due(35, "beyond before full", x.feed(0x20, 5), BEYOND);
        due(36, "wipe", x.wipe(), 120);
        due(36, "wipe again", x.wipe(), 0);
        due(36, "bytes", x.count(5), 0);
        due(36, "empty again", told(x, "day"), 1);
        due(35, "four bytes", x.feed(('d' << 24) | ('a' << 16) | ('y' << 8) | ';', 4), 4);
        due(35, "a text in two", told(x, "night"), 2);
        due(35, "the night", x.now(5), 1);
    }

    private static void texts() {
        FaithRails x = new FaithRails();
        due(37, "all kinds", told(x, "rider;doubter;prophet;banker;seller;child;sceptic"), 7);
        for (int i = 0; i < 7; i++) {
            due(37, "kind " + i, x.of(i, 0), new int[] {0, 1, 2, 3, 4, 5, 6}[i]);
            due(37, "aboard", x.of(i, 1), -1);
            due(37, "belief", x.of(i, 2), 50);
        }
        due(37, "the tape is empty", x.count(5), 0);
        due(37, "one that waits", told(x, "  rider  waits16believes 0  "), 1);
        due(37, "where", x.of(7, 1), 16);
        due(37, "belief", x.of(7, 2), 0);
        due(37, "a ninth", told(x, "train 3; rider"), -10);
        due(37, "nothing changed", x.now(1), 0);
        due(37, "the rest", told(x, "need 15 999;need 0 0;train 16;gain 20;loss 0;night"), 6);
        due(37, "need 15", x.stretch(15, 0), 999);
        due(37, "need 0", x.stretch(0, 0), 0);
        due(37, "train", x.now(1), 16);
        due(37, "night", x.now(5), 1);
        due(37, "gain", x.set(GAIN, 0), 20);
        due(37, "loss", x.set(LOSS, 0), 0);
        due(37, "day", told(x, "day"), 1);
        due(37, "by day", x.now(5), 0);
        due(37, "item by item", told(x, "gain 1;gain 2;gain 3"), 3);
        due(37, "gain then", x.set(GAIN, 0), 3);
        due(37, "no findings", x.status(-1), 0);
        FaithRails y = new FaithRails();
        due(37, "waits alone", told(y, "child waits 0;child believes 99;child waits 3 believes 7"), 3);
        due(37, "waits at 0", y.of(0, 1), 0);
        due(37, "believes 99", y.of(1, 2), 99);
        due(37, "waits at 3", y.of(2, 1), 3);
        due(37, "believes 7", y.of(2, 2), 7);
        y.set(TRAIN, 9);
        y.ahead(5);
        y.set(NIGHT, 1);
        y.image();
        y.change(0, 1, 2);
        due(37, "what it doesn't tell stays", told(y, "gain 5"), 1);
        due(37, "the train stays", y.now(1), 9);
        due(37, "the night stays", y.now(5), 1);
        due(37, "one stays", y.of(0, 1), 2);
        faults();
    }

    private static void faults() {
        String[] texts = {"", "   ", "monk", "riders", "rider waits", "rider waits 17", "rider waits believes 5",
            "rider believes 100", "rider believes 5 waits 5", "rider believes 5 believes 5", "rider 5",
            "need", "need 16 0", "need 5", "need 5;", "need 5 1000", "need 5 5 5", "train 17", "train gain 5",
            "gain 21", "loss 21", "gain loss 5", "night 1", "day;", "day ;  ", ";", "day;;day", "day day", "5",
            "Day", "day#", "day\t", "#", "waits 5", "believes 5", "rider;waits 5", "nightday", "day -1",
            "train -1", "gain 99999999999999999999", "gain 00000000000000000020x", "day\u00e9", "train 4294967297",
            "rider waits 3 believes", "rider waits ;", "need 1 1 ; need 1 x", "day;rider waits 3 waits 3",
            "train", "gain", "loss ", "rider believes", "train;day", "dayz", "hay", "xight", "dat", "waits"};
        int[] at = {0, 3, 0, 0, 11, 12, 12,
            15, 17, 17, 6,
            4, 5, 6, 6, 7, 9, 6, 6,
            5, 5, 5, 6, 4, 7, 0, 4, 4, 0,
            0, 3, 3, 0, 0, 0, 6, 0, 4,
            6, 5, 25, 3, 6,
            22, 12, 18, 18,
            5, 4, 5, 14, 5, 0, 0, 0, 0, 0};
        for (int i = 0; i < texts.length; i++) {
            FaithRails x = new FaithRails();
            due(37, "\"" + texts[i] + "\"", told(x, texts[i]), -1 - at[i]);
            due(37, "the tape is empty", x.count(5), 0);
            due(37, "nobody came", x.count(1), 0);
            due(37, "no finding", x.status(-1), 0);
            due(37, "night", x.now(5), 0);
            due(37, "need 1", x.stretch(1, 0), 50);
            due(37, "need 5", x.stretch(5, 0), 50);
            due(37, "gain", x.set(GAIN, 3), 3);
        }
    }

    // ---- spots, sheets

    private static void spots() {
        FaithRails x = new FaithRails();
        due(38, "nobody to hold", x.hold(0, 0), BEYOND);
        due(38, "nothing", x.hold(0, -1), 1);
        for (int kind = 0; kind < 7; kind++) {
            x.person(kind, 0);
            due(38, "hold", x.hold(kind, kind), 1);
        }
        due(38, "hold the last", x.hold(9, 6), 1);
        due(38, "spots in use", x.count(7), 8);
        due(38, "hold(10, 0)", x.hold(10, 0), BEYOND);
        due(38, "hold(-1, 0)", x.hold(-1, 0), BEYOND);
        due(38, "hold(0, 7)", x.hold(0, 7), BEYOND);
        due(38, "hold(0, -2)", x.hold(0, -2), BEYOND);
        String[] above = {"0", "10", "20", "320", "4320", "50", "610"};
        for (int spot = 0; spot < 7; spot++) {
            for (int kind = 0; kind < 7; kind++) {
                boolean is = above[spot].indexOf('0' + kind) >= 0;
                due(39, "as(" + spot + ", " + kind + ")", x.as(spot, kind), is ? spot : KIND);
            }
        }
        due(39, "as(8, 0)", x.as(8, 0), MISSING);
        due(39, "as(9, 6)", x.as(9, 6), 6);
        due(39, "as(10, 0)", x.as(10, 0), BEYOND);
        due(39, "as(-1, 0)", x.as(-1, 0), BEYOND);
        due(39, "as(8, 7)", x.as(8, 7), BEYOND);
        due(39, "as(8, -1)", x.as(8, -1), BEYOND);
        x.change(4, 0, RIDER);
        due(39, "of another kind now", x.as(4, SELLER), KIND);
        due(38, "nothing again", x.hold(0, -1), 1);
        due(39, "as(0, 0) of nothing", x.as(0, 0), MISSING);
        due(38, "spots in use", x.count(7), 7);
    }

    private static void sheets() {
        FaithRails x = new FaithRails();
        due(40, "sheet(-1, 8, 1)", x.sheet(-1, 8, 1), BEYOND);
        due(40, "sheet(4, 8, 1)", x.sheet(4, 8, 1), BEYOND);
        due(40, "sheet(0, 7, 1)", x.sheet(0, 7, 1), BEYOND);
        due(40, "sheet(0, 64, -1)", x.sheet(0, 64, -1), BEYOND);
        due(40, "sheet(0, -8, 1)", x.sheet(0, -8, 1), BEYOND);
        due(40, "sheet(0, 8, -1)", x.sheet(0, 8, -1), SIZE);
        due(40, "sheet(0, 0, -1)", x.sheet(0, 0, -1), SIZE);
        due(40, "sheet(0, 8, 41)", x.sheet(0, 8, 41), BEYOND);
        due(40, "sheet(0, 0, 41)", x.sheet(0, 0, 41), BEYOND);
        due(40, "still missing", x.write(0, 0, 0), MISSING);
        due(40, "sheet(0, 8, 40)", x.sheet(0, 8, 40), 40);
        due(40, "sheet(3, 32, 0)", x.sheet(3, 32, 0), 0);
        due(41, "write(0, 39, 0)", x.write(0, 39, 0), 1);
        due(41, "write(0, 40, 0)", x.write(0, 40, 0), BEYOND);
        due(41, "write(0, -1, 0)", x.write(0, -1, 0), BEYOND);
        due(41, "write(3, 0, 0)", x.write(3, 0, 0), BEYOND);
        due(41, "write(2, 0, 0)", x.write(2, 0, 0), MISSING);
        due(41, "write(4, 0, 0)", x.write(4, 0, 0), BEYOND);
        due(41, "write(-1, 0, 0)", x.write(-1, 0, 0), BEYOND);
        x.write(0, 0, 9);
        due(40, "a new sheet is all 0", x.sheet(0, 8, 3), 3);
        x.load(0);
        due(40, "0 came", x.stretch(0, 0), 0);
        due(40, "sheet(0, 0, 5)", x.sheet(0, 0, 5), 0);
        due(40, "missing again", x.load(0), MISSING);
        lowestBits();
    }

    private static void lowestBits() {
        FaithRails x = new FaithRails();
        sheet(x, 0, 8, 127, 256, 257, 511);
        due(41, "8 bits", x.load(0), 3);
        due(41, "127 of 8 bits", x.stretch(0, 0), 127);
        due(41, "256 of 8 bits", x.stretch(1, 0), 0);
        due(41, "257 of 8 bits", x.stretch(2, 0), 1);
        sheet(x, 0, 8, 128);
        due(41, "128 of 8 bits is below 0", x.load(0), 0);
        sheet(x, 0, 16, 999, 65536 + 3, 32768);
        due(41, "16 bits", x.load(0), 2);
        due(41, "999 of 16 bits", x.stretch(0, 0), 999);
        due(41, "65539 of 16 bits", x.stretch(1, 0), 3);
        sheet(x, 0, 32, 5, 65536);
        due(41, "32 bits", x.load(0), 1);
        sheet(x, 0, 16, 65535);
        x.set(TRAIN, 0);
        x.person(0, 0);
        due(41, "65535 of 16 bits is -1", x.kinds(0, 0), 127);
        sheet(x, 0, 32, 65535);
        due(41, "65535 of 32 bits isn't", x.kinds(0, 0), 0);
    }

    private static void copy() {
        FaithRails x = new FaithRails();
        sheet(x, 0, 16, 1, 2, 3, 4, 5);
        sheet(x, 1, 16, 9, 9, 9);
        sheet(x, 2, 8, 9, 9, 9);
        due(42, "copy", x.copy(0, 1, 1, 1, 2), 2);
        due(42, "three came", x.load(1), 3);
        due(42, "0", x.stretch(0, 0), 9);
        due(42, "1", x.stretch(1, 0), 2);
        due(42, "2", x.stretch(2, 0), 3);
        due(42, "onto itself", x.copy(0, 0, 0, 1, 4), 4);
        x.load(0);
        for (int i = 0; i < 5; i++) {
            due(42, "as they all were " + i, x.stretch(i, 0), i == 0 ? 1 : i);
        }
        due(42, "back", x.copy(0, 1, 0, 0, 4), 4);
        x.load(0);
        due(42, "4 twice", x.stretch(3, 0), 4);
        due(42, "nothing at the end", x.copy(0, 5, 1, 3, 0), 0);
        due(42, "nothing beyond the end", x.copy(0, 6, 1, 3, 0), BEYOND);
        due(42, "nothing beyond the other's end", x.copy(0, 5, 1, 4, 0), BEYOND);
        due(42, "too many", x.copy(0, 3, 1, 0, 3), BEYOND);
        due(42, "too many for the other", x.copy(0, 0, 1, 1, 3), BEYOND);
        due(42, "from below 0", x.copy(0, -1, 1, 0, 1), BEYOND);
        due(42, "to below 0", x.copy(0, 0, 1, -1, 1), BEYOND);
        due(42, "n below 0", x.copy(0, 0, 1, 0, -1), BEYOND);
        due(42, "much too many", x.copy(0, 2, 1, 2, Integer.MAX_VALUE), BEYOND);
        due(42, "from much too far", x.copy(0, Integer.MAX_VALUE, 1, 0, Integer.MAX_VALUE), BEYOND);
        due(42, "other bits", x.copy(0, 0, 2, 0, 1), KIND);
        due(42, "other bits before beyond", x.copy(0, 0, 2, 0, 99), KIND);
        due(42, "missing", x.copy(0, 0, 3, 0, 1), MISSING);
        due(42, "missing, first", x.copy(3, 0, 0, 0, 1), MISSING);
        due(42, "no such sheet", x.copy(4, 0, 3, 0, 1), BEYOND);
        due(42, "no such other sheet before missing", x.copy(3, 0, -1, 0, 1), BEYOND);
    }

    private static void loadAndJudge() {
        FaithRails x = new FaithRails();
        due(43, "missing", x.load(0), MISSING);
        due(43, "load(4)", x.load(4), BEYOND);
        due(43, "load(-1)", x.load(-1), BEYOND);
        sheet(x, 0, 16, 0, 999, 1000, 7);
        due(43, "it ends at 1000", x.load(0), 2);
        due(43, "0", x.stretch(0, 0), 0);
        due(43, "1", x.stretch(1, 0), 999);
        due(43, "2 as it was", x.stretch(2, 0), 50);
        due(43, "3 as it was", x.stretch(3, 0), 50);
        sheet(x, 0, 16, 5, -1, 7);
        due(43, "it ends at -1", x.load(0), 1);
        x.sheet(1, 8, 40);
        due(43, "16 stretches", x.load(1), 16);
        due(43, "the last", x.stretch(15, 0), 0);
        x.sheet(1, 8, 0);
        due(43, "an empty sheet", x.load(1), 0);
        FaithRails y = shortRide();
        due(44, "missing", y.judge(0), MISSING);
        due(44, "judge(4)", y.judge(4), BEYOND);
        due(44, "judge(-1)", y.judge(-1), BEYOND);
        sheet(y, 0, 8, 0, 1, 2, 3, 3, 3);
        due(44, "so", y.judge(0), 0);
        sheet(y, 0, 8, 0, 1, 2, 3, 4, 3);
        due(44, "not so at 4", y.judge(0), 5);
        sheet(y, 0, 8, 1);
        due(44, "not so at 0", y.judge(0), 1);
        sheet(y, 0, 8, 0, -1);
        due(44, "-1 is no yard", y.judge(0), 2);
        y.sheet(0, 8, 0);
        due(44, "an empty sheet", y.judge(0), 0);
        due(44, "hour still", y.now(0), 0);
    }

    // ---- images

    private static void images() {
        FaithRails x = shortRide();
        due(46, "nothing kept", x.undo(), NONE);
        x.go(2);
        x.seed(77);
        x.hold(3, 0);
        sheet(x, 0, 8, 4);
        x.feed('d', 1);
        due(45, "image", x.image(), 1);
        x.go(5);
        x.person(CHILD, 2);
        x.change(0, 0, SELLER);
        x.change(0, 1, 7);
        x.need(9, 9);
        x.seed(5);
        x.set(NIGHT, 1);
        x.set(GAIN, 9);
        x.set(LOSS, 9);
        x.hold(3, -1);
        x.hold(4, 1);
        x.write(0, 0, 8);
        x.feed(0x6179, 2);
        due(46, "undo", x.undo(), 2);
        due(46, "hour", x.now(0), 2);
        due(46, "yard", x.now(1), 2);
        due(46, "falls", x.now(4), 0);
        due(46, "people", x.count(1), 1);
        due(46, "kind", x.of(0, 0), RIDER);
        due(46, "where", x.of(0, 1), -1);
        due(46, "belief", x.of(0, 2), 66);
        due(46, "need", x.stretch(9, 0), 80);
        due(46, "z", x.count(6), 77);
        due(46, "night", x.now(5), 0);
        due(46, "gain", x.set(GAIN, 1), 3);
        due(46, "loss", x.set(LOSS, 1), 5);
        due(46, "spot 3", x.as(3, 0), 0);
        due(46, "spots", x.count(7), 1);
        due(46, "the tape isn't kept", x.text(), 1);
        due(46, "sheets aren't kept", x.load(0), 1);
        due(46, "what was written", x.stretch(0, 0), 8);
        due(46, "findings are not taken back", x.status(3), 1);
        due(46, "undo again", x.undo(), 2);
        due(46, "gain again", x.set(GAIN, 3), 3);
        x.go(1);
        due(45, "image of later", x.image(), 1);
        x.go(1);
        due(46, "the latest", x.undo(), 3);
        due(47, "tear", x.tear(), 1);
        due(47, "tear again", x.tear(), 0);
        due(47, "nothing kept", x.undo(), NONE);
        due(47, "hour", x.now(0), 3);
    }

    private static void counts() {
        FaithRails x = shortRide();
        x.person(RIDER, 16);
        x.person(RIDER, -1);
        x.go(2);
        x.feed(0, 3);
        x.seed(-1000003);
        x.hold(0, 0);
        x.hold(9, 0);
        due(48, "hour", x.count(0), 2);
        due(48, "people", x.count(1), 3);
        due(48, "aboard", x.count(2), 2);
        due(48, "there", x.count(3), Integer.bitCount(x.now(3)));
        due(48, "there", x.count(3), 16);
        due(48, "belief", x.count(4), x.of(0, 2) + x.of(1, 2) + x.of(2, 2));
        due(48, "bytes", x.count(5), 3);
        due(48, "z", x.count(6), -1000003);
        due(48, "spots", x.count(7), 2);
        due(48, "z is no finding", x.status(-1), 0);
        due(48, "count(8)", x.count(8), BEYOND);
        due(48, "count(-1)", x.count(-1), BEYOND);
    }

    private static void status() {
        FaithRails x = new FaithRails();
        x.of(0, 0);
        x.need(16, 0);
        x.odds(-1, 0);
        for (int i = 0; i < 8; i++) {
            x.person(RIDER, 0);
        }
        x.person(RIDER, 0);
        x.hold(0, 0);
        x.as(0, CHILD);
        x.when(16);
        x.undo();
        x.leave(0);
        x.leave(1);
        x.leave(2);
        x.judge(0);
        x.sheet(0, 8, -1);
        x.sheet(0, 0, -7);
        int[] due = {3, 1, 1, 2, 3, 1, 2};
        for (int i = 0; i < 7; i++) {
            due(49, "status(" + i + ")", x.status(i), due[i]);
        }
        due(49, "all", x.status(-1), 13);
        due(49, "status(7)", x.status(7), BEYOND);
        due(49, "it counts", x.status(0), 4);
        due(49, "status(-2)", x.status(-2), BEYOND);
        due(49, "it counts", x.status(0), 5);
        due(49, "all", x.status(-1), 15);
        x.image();
        x.of(-1, 0);
        x.undo();
        due(49, "undo takes none back", x.status(0), 6);
        due(49, "status(max)", x.status(Integer.MAX_VALUE), BEYOND);
        due(49, "status(min)", x.status(Integer.MIN_VALUE), BEYOND);
    }

    /** As many people, numbers and bytes as there can be. */
    private static void asMuchAsCanBe() {
        FaithRails x = new FaithRails();
        for (int i = 0; i < 8; i++) {
            add(x, SELLER, -1, 99);
        }
        needs(x, 0, 15, 999);
        // Each has faith of 99 + 20 + 35, less its falls: with all there are 1232.
        due(3, "SUM of eight", x.stretch(15, 1), 1232);
        due(5, "FAITH of one of eight", x.of(7, 3), 154);
        due(10, "go of eight", x.go(16), 16);
        due(11, "all aboard", x.now(2), 255);
        due(11, "belief of eight", x.now(6), 792);
        due(48, "all aboard", x.count(2), 8);
        due(29, "worth of eight", x.worth(), 16 * 999);
        due(30, "hangs on the eighth", x.hangs(7), 0);
        due(31, "two of eight", x.run(), 0b11);
        due(22, "without at the last yard", x.without(60), 0);
        x.set(TRAIN, 0);
        // Seven aboard bring 7 * 149, which is enough; six bring 6 * 144, and those who wait are soon far.
        due(19, "with eight", x.with(255, 60), 16);
        due(19, "with too many", x.with(256, 60), BEYOND);
        due(20, "seven of eight", x.fewest(16, 60), 0b1111111);
        due(21, "the least of eight", x.farthest(60), 0b1111111);
        due(18, "kindFor the eighth", x.kindFor(7, 60), RIDER);
        due(23, "persuade the eighth", x.persuade(7, 16, 60), 0);
        due(25, "seat of the eighth", x.seat(7, 60), 0);
        due(13, "believes of the eighth", x.believes(7, 100), 99);
        x.sheet(3, 32, 40);
        for (int i = 0; i < 40; i++) {
            x.write(3, i, Math.min(i, 16));
        }
        due(26, "forty yards", x.kinds(3, 7), 127);
        due(27, "forty yards", x.beliefs(3, 7), 100);
        due(44, "forty yards", x.judge(3), 0);
        due(42, "forty numbers", x.copy(3, 0, 3, 0, 40), 40);
        due(37, "thirty items", told(x, "day;".repeat(29) + "day"), 30);
        due(37, "no room for a ninth", told(x, "rider"), -1);
    }

    public static void main(String[] args) {
        asMuchAsCanBe();
        aNewObject();
        need();
        stretch();
        person();
        of();
        change();
        set();
        boardAndLeave();
        go();
        now();
        whatWillBe();
        kindFor();
        with();
        fewestAndFarthest();
        without();
        persuade();
        bears();
        seat();
        doubt();
        bankers();
        gold();
        oddsAndSeed();
        tape();
        texts();
        spots();
        sheets();
        copy();
        loadAndJudge();
        images();
        counts();
        status();
        System.out.println(wrong == 0 ? "all promises hold" : wrong + " answers are not as due");
        if (wrong != 0) {
            System.exit(1);
        }
    }
}
