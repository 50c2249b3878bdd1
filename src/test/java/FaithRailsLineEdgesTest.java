/** The edges that promises 1 to 17 name: the line, people, hours, what will be. A test a sentence. */
public final class FaithRailsLineEdgesTest {
    private static final Edges e = new Edges();

    private static FaithRails one(int where, int belief) {
        FaithRails x = new FaithRails();
        Edges.add(x, Edges.RIDER, where, belief);
        return x;
    }

    private static FaithRails waitsAt(int train, int where) {
        FaithRails x = one(where, 50);
        x.set(Edges.TRAIN, train);
        return x;
    }

    /** Goes on for an hour, then falls short for ever: belief 99 is 0 behind 100 hours, 1 behind 99. */
    private static FaithRails longLoss() {
        FaithRails x = one(Edges.ABOARD, 99);
        x.set(Edges.GAIN, 0);
        x.set(Edges.LOSS, 1);
        Edges.needs(x, 1, 15, 999);
        x.need(4, 1);
        return x;
    }

    // ---- 1 to 7

    private static void newObject() {
        e.sentence("1: All as at first", () -> {
            FaithRails x = new FaithRails();
            for (int k = 0; k <= 15; k++) {
                e.due("NEED", x.stretch(k, 0), 50);
            }
            for (int what = 0; what <= 6; what++) {
                e.due("now(" + what + ")", x.now(what), 0);
            }
            for (int what = 0; what <= 7; what++) {
                e.due("count(" + what + ")", x.count(what), what == 6 ? 1 : 0);
            }
            for (int which = -1; which <= 6; which++) {
                e.due("status(" + which + ")", x.status(which), 0);
            }
            e.due("GAIN", x.set(Edges.GAIN, 0), 3);
            e.due("LOSS", x.set(Edges.LOSS, 0), 5);
            for (int spot = 0; spot <= 9; spot++) {
                e.due("SPOT", x.as(spot, 0), Edges.MISSING);
            }
            for (int s = 0; s <= 3; s++) {
                e.due("SHEET", x.load(s), Edges.MISSING);
            }
        });
        e.sentence("1: nobody", () -> {
            e.due("count(1)", Edges.anew().count(1), 0);
            e.due("of(0, 0)", Edges.anew().of(0, 0), Edges.BEYOND);
        });
        e.sentence("1: THE TAPE is empty", () -> {
            e.due("wipe()", Edges.anew().wipe(), 0);
            e.due("text()", Edges.anew().text(), -1);
        });
        e.sentence("1: no image is kept", () -> {
            e.refused(Edges::anew, "undo()", Edges.NONE, x -> x.undo());
            e.asked(Edges::anew, "tear()", 0, x -> x.tear());
        });
        e.sentence("1: A new object: what another one did is not its own", () -> {
            FaithRails before = new FaithRails();
            Edges.busy();
            Edges.full();
            e.same("another object", before, new FaithRails());
        });
    }

    private static void need() {
        e.sentence("2: NEED of a STRETCH (0 to 15)", () ->
                e.range(Edges::busy, "need(v, 7)", 0, 15, (x, v) -> x.need(v, 7)));
        e.sentence("2: becomes v (0 to 999)", () -> {
            e.range(Edges::busy, "need(0, v)", 0, 999, (x, v) -> x.need(0, v));
            e.range(Edges::busy, "need(15, v)", 0, 999, (x, v) -> x.need(15, v));
        });
        e.sentence("2: what it was", () -> {
            FaithRails x = new FaithRails();
            int[] needs = {50, 999, 0, 1, 1, 998};
            for (int i = 0; i + 1 < needs.length; i++) {
                e.due("need(15, " + needs[i + 1] + ")", x.need(15, needs[i + 1]), needs[i]);
                e.due("NEED then", x.stretch(15, 0), needs[i + 1]);
            }
            e.due("NEED of the one before", x.stretch(14, 0), 50);
        });
        e.sentence("2: BEYOND: of both one alone", () ->
                e.refused(Edges::full, "need(16, 1000)", Edges.BEYOND, x -> x.need(16, 1000)));
    }

    private static void stretch() {
        e.sentence("3: Of a STRETCH (0 to 15)", () -> {
            for (int what = 0; what <= 2; what++) {
                int asked = what;
                e.range(Edges::busy, "stretch(v, " + what + ")", 0, 15, (x, v) -> x.stretch(v, asked));
            }
        });
        e.sentence("3: what 0 NEED, 1 SUM, 2 THERE", () -> {
            e.range(Edges::busy, "stretch(0, v)", 0, 2, (x, v) -> x.stretch(0, v));
            e.refused(Edges::busy, "stretch(16, 3)", Edges.BEYOND, x -> x.stretch(16, 3));
            e.asked(() -> one(Edges.ABOARD, 33), "stretch(15, 0)", 50, x -> x.stretch(15, 0));
            e.asked(() -> one(Edges.ABOARD, 33), "stretch(15, 1)", 33, x -> x.stretch(15, 1));
        });
        e.sentence("3: 2 1 if it is THERE, else 0", () -> {
            e.asked(() -> one(Edges.ABOARD, 50), "stretch(0, 2)", 1, x -> x.stretch(0, 2));
            e.asked(() -> one(Edges.ABOARD, 49), "stretch(0, 2)", 0, x -> x.stretch(0, 2));
        });
    }

    private static void person() {
        e.sentence("4: One more of PEOPLE, of a KIND (0 to 6)", () ->
                e.range(Edges::busy, "person(v, 3)", 0, 6, (x, v) -> x.person(v, 3)));
        e.sentence("4: WHERE: a YARD, -1 ABOARD", () ->
                e.range(Edges::busy, "person(6, v)", -1, 16, (x, v) -> x.person(6, v)));
        e.sentence("4: the number", () -> {
            FaithRails x = new FaithRails();
            for (int i = 0; i < 8; i++) {
                e.due("person", x.person(6 - i % 7, 16 - i), i);
                e.due("KIND", x.of(i, 0), 6 - i % 7);
                e.due("WHERE", x.of(i, 1), 16 - i);
                e.due("BELIEF", x.of(i, 2), 50);
            }
        });
        e.sentence("4: FULL: a 9th of PEOPLE", () -> {
            e.refused(Edges::full, "person(0, -1)", Edges.FULL, x -> x.person(0, -1));
            e.refused(Edges::full, "person(6, 16)", Edges.FULL, x -> x.person(6, 16));
        });
        e.sentence("4: BEYOND. FULL.: BEYOND is asked first", () -> {
            e.outside(Edges::full, "person(v, 0)", 0, 6, (x, v) -> x.person(v, 0));
            e.outside(Edges::full, "person(0, v)", -1, 16, (x, v) -> x.person(0, v));
        });
    }

    private static void of() {
        e.sentence("5: Of one (of those that there are)", () -> {
            e.range(Edges::busy, "of(v, 2)", 0, 4, (x, v) -> x.of(v, 2));
            e.range(Edges::full, "of(v, 3)", 0, 7, (x, v) -> x.of(v, 3));
            e.refused(Edges::anew, "of(0, v)", Edges.BEYOND, (x, v) -> x.of(0, v), 0, 1, 2, 3);
        });
        e.sentence("5: what 0 KIND, 1 WHERE, 2 BELIEF, 3 FAITH", () -> {
            e.range(Edges::full, "of(7, v)", 0, 3, (x, v) -> x.of(7, v));
            FaithRails x = new FaithRails();
            Edges.add(x, Edges.SCEPTIC, 16, 99);
            int[] due = {6, 16, 99, 29};
            for (int what = 0; what <= 3; what++) {
                e.due("of(0, " + what + ")", x.of(0, what), due[what]);
            }
        });
    }

    private static void change() {
        e.sentence("6: of one (of those that there are)", () -> {
            for (int what = 0; what <= 2; what++) {
                int changed = what;
                e.range(Edges::busy, "change(v, " + what + ", 1)", 0, 4, (x, v) -> x.change(v, changed, 1));
                e.refused(Edges::anew, "change(0, v, 1)", Edges.BEYOND, (x, v) -> x.change(0, v, 1), what);
            }
        });
        e.sentence("6: KIND (what 0), WHERE (1), BELIEF (2)", () ->
                e.range(Edges::full, "change(7, v, 0)", 0, 2, (x, v) -> x.change(7, v, 0)));
        e.sentence("6: KIND becomes v (0 to 6)", () -> becomes(0, 0, 6));
        e.sentence("6: WHERE becomes v (-1 to 16)", () -> becomes(1, -1, 16));
        e.sentence("6: BELIEF becomes v (0 to 99)", () -> becomes(2, 0, 99));
    }

    private static void becomes(int what, int least, int most) {
        e.range(Edges::full, "change(7, " + what + ", v)", least, most, (x, v) -> x.change(7, what, v));
        FaithRails x = new FaithRails();
        x.person(0, 0);
        x.person(0, 0);
        x.change(1, what, least);
        e.due("what it was: the least", x.change(1, what, most), least);
        e.due("what it is: the most", x.of(1, what), most);
        e.due("what it was: the most", x.change(1, what, least), most);
        e.due("what it is: the least", x.of(1, what), least);
        e.due("of the other", x.of(0, what), what == 2 ? 50 : 0);
    }

    private static void set() {
        e.sentence("7: what 0 to 3", () -> e.range(Edges::busy, "set(v, 0)", 0, 3, (x, v) -> x.set(v, 0)));
        e.sentence("7: THE TRAIN AT (what 0: a YARD)", () -> setTo(0, 16, 0));
        e.sentence("7: NIGHT (1): 0 or 1", () -> setTo(1, 1, 0));
        e.sentence("7: GAIN (2): 0 to 20", () -> setTo(2, 20, 3));
        e.sentence("7: LOSS (3): 0 to 20", () -> setTo(3, 20, 5));
        e.sentence("7: THE TRAIN AT becomes v: those who wait and those ABOARD stay so", () -> {
            FaithRails x = one(Edges.ABOARD, 50);
            x.person(0, 0);
            x.set(Edges.TRAIN, 16);
            e.due("aboard", x.of(0, 1), -1);
            e.due("waits", x.of(1, 1), 0);
        });
    }

    private static void setTo(int what, int most, int atFirst) {
        e.range(Edges::busy, "set(" + what + ", v)", 0, most, (x, v) -> x.set(what, v));
        FaithRails x = new FaithRails();
        e.due("what it was at first", x.set(what, most), atFirst);
        e.due("what it was: the most", x.set(what, 0), most);
        e.due("what it was: the least", x.set(what, 1), 0);
        for (int other = 0; other <= 3; other++) {
            if (other != what) {
                e.due("another than " + what, x.set(other, 0), new int[] {0, 0, 3, 5}[other]);
            }
        }
    }

    // ---- 8 to 11

    private static void board() {
        Edges.Scene threeWait = () -> {
            FaithRails x = waitsAt(4, 4);
            x.person(Edges.SELLER, 4);
            x.person(Edges.CHILD, 4);
            return x;
        };
        e.sentence("8: BEYOND: one of those that there are", () -> {
            e.range(threeWait, "board(v)", 0, 2, (x, v) -> x.board(v));
            e.refused(Edges::anew, "board(0)", Edges.BEYOND, x -> x.board(0));
        });
        e.sentence("8: One gets ABOARD: 1", () -> {
            for (int yard = 0; yard <= 16; yard++) {
                FaithRails x = waitsAt(yard, yard);
                e.due("board(0) at yard " + yard, x.board(0), 1);
                e.due("where", x.of(0, 1), -1);
            }
        });
        e.sentence("8: STATE: it isn't AT the YARD of THE TRAIN", () -> {
            for (int yard = 0; yard <= 16; yard++) {
                int train = yard;
                e.refused(() -> waitsAt(train, train == 16 ? 15 : train + 1), "board(0)", Edges.STATE, x -> x.board(0));
                e.refused(() -> waitsAt(train, train == 0 ? 16 : train - 1), "board(0)", Edges.STATE, x -> x.board(0));
            }
        });
        e.sentence("8: (also: it is ABOARD)", () -> {
            e.refused(() -> waitsAt(0, Edges.ABOARD), "board(0)", Edges.STATE, x -> x.board(0));
            FaithRails x = waitsAt(16, 16);
            e.due("board(0)", x.board(0), 1);
            e.due("board(0) again", x.board(0), Edges.STATE);
        });
    }

    private static void leave() {
        e.sentence("9: BEYOND: one of those that there are", () -> {
            e.range(() -> {
                FaithRails x = waitsAt(4, Edges.ABOARD);
                x.person(Edges.SELLER, Edges.ABOARD);
                return x;
            }, "leave(v)", 0, 1, (x, v) -> x.leave(v));
            e.refused(Edges::anew, "leave(0)", Edges.BEYOND, x -> x.leave(0));
        });
        e.sentence("9: One gets off, and waits where THE TRAIN is: that YARD", () -> {
            for (int yard = 0; yard <= 16; yard++) {
                FaithRails x = waitsAt(yard, Edges.ABOARD);
                e.due("leave(0)", x.leave(0), yard);
                e.due("where", x.of(0, 1), yard);
                e.due("who is aboard", x.now(2), 0);
            }
        });
        e.sentence("9: STATE: it isn't ABOARD", () -> {
            e.refused(() -> waitsAt(0, 0), "leave(0)", Edges.STATE, x -> x.leave(0));
            e.refused(() -> waitsAt(16, 16), "leave(0)", Edges.STATE, x -> x.leave(0));
            e.refused(() -> waitsAt(3, 5), "leave(0)", Edges.STATE, x -> x.leave(0));
            FaithRails x = waitsAt(7, Edges.ABOARD);
            e.due("leave(0)", x.leave(0), 7);
            e.due("leave(0) again", x.leave(0), Edges.STATE);
        });
    }

    private static void go() {
        e.sentence("10: n HOURS (1 to 60)", () -> {
            e.range(Edges::busy, "go(v)", 1, 60, (x, v) -> x.go(v));
            for (int n = 1; n <= 60; n++) {
                FaithRails x = new FaithRails();
                x.go(n);
                e.due("HOUR", x.now(0), n);
            }
        });
        e.sentence("10: the YARD of THE TRAIN then", () -> {
            e.due("in 49 hours", Edges.slow(5).go(49), 5);
            e.due("in 50 hours", Edges.slow(5).go(50), 6);
            e.due("in 59 hours", Edges.slow(5).go(59), 15);
            e.due("in 60 hours", Edges.slow(5).go(60), 16);
        });
        e.sentence("10: STATE: HOUR would be above 99999", () -> {
            Edges.Scene late = () -> Edges.atHour(99940);
            for (int n = 1; n <= 59; n++) {
                e.due("go(" + n + ")", late.made().go(n), 0);
            }
            e.refused(late, "go(60)", Edges.STATE, x -> x.go(60));
            FaithRails x = late.made();
            x.go(59);
            e.due("HOUR", x.now(0), 99999);
            e.refused(() -> Edges.atHour(99999), "go(v)", Edges.STATE, (y, v) -> y.go(v), 1, 2, 60);
        });
        e.sentence("10: BEYOND. STATE.: BEYOND is asked first", () ->
                e.outside(() -> Edges.atHour(99999), "go(v)", 1, 60, (x, v) -> x.go(v)));
    }

    private static void now() {
        e.sentence("11: What 0 to 6", () -> {
            e.range(Edges::busy, "now(v)", 0, 6, (x, v) -> x.now(v));
            for (int what = 0; what <= 6; what++) {
                int asked = what;
                e.asked(Edges::anew, "now(" + what + ")", 0, x -> x.now(asked));
            }
        });
        e.sentence("11: 2 who is ABOARD, as a set: nobody, all eight", () -> {
            e.asked(Edges::anew, "now(2)", 0, x -> x.now(2));
            FaithRails x = new FaithRails();
            for (int i = 0; i < 8; i++) {
                x.person(0, -1);
                e.due("now(2)", x.now(2), (2 << i) - 1);
            }
        });
        e.sentence("11: 3 STRETCHES that are THERE, as a set: none, each, all", () -> {
            FaithRails x = new FaithRails();
            e.due("none", x.now(3), 0);
            for (int k = 0; k <= 15; k++) {
                x.need(k, 0);
                e.due("to " + k, x.now(3), (2 << k) - 1);
            }
        });
        e.sentence("11: 6 BELIEF of all together: nobody's, all that can be", () -> {
            FaithRails x = new FaithRails();
            e.due("nobody's", x.now(6), 0);
            for (int i = 0; i < 8; i++) {
                Edges.add(x, i % 7, 2 * i, 99);
            }
            e.due("all", x.now(6), 792);
        });
    }

    // ---- 12 to 17

    private static void ahead() {
        e.sentence("12: behind n (0 to 100) HOURS", () -> {
            e.range(Edges::busy, "ahead(v)", 0, 100, (x, v) -> x.ahead(v));
            int[] n = {0, 49, 50, 64, 65, 66, 100};
            int[] yards = {0, 0, 1, 15, 16, 16, 16};
            for (int i = 0; i < n.length; i++) {
                int hours = n[i];
                e.asked(() -> Edges.slow(0), "ahead(" + hours + ")", yards[i], x -> x.ahead(hours));
            }
        });
        e.sentence("what will be (nothing changes): ahead", () -> {
            long yard = Edges.busy().ahead(100);
            e.asked(Edges::busy, "ahead(100)", yard, x -> x.ahead(100));
        });
    }

    private static void believes() {
        e.sentence("13: BELIEF of one (of those that there are)", () -> {
            e.range(Edges::busy, "believes(v, 100)", 0, 4, (x, v) -> x.believes(v, 100));
            e.range(Edges::full, "believes(v, 0)", 0, 7, (x, v) -> x.believes(v, 0));
            e.refused(Edges::anew, "believes(0, 0)", Edges.BEYOND, x -> x.believes(0, 0));
        });
        e.sentence("13: behind n (0 to 100) HOURS", () -> {
            e.range(Edges::busy, "believes(1, v)", 0, 100, (x, v) -> x.believes(1, v));
            int[] n = {0, 1, 2, 99, 100};
            int[] beliefs = {99, 99, 98, 1, 0};
            for (int i = 0; i < n.length; i++) {
                int hours = n[i];
                e.asked(() -> longLoss(), "believes(0, " + hours + ")", beliefs[i], x -> x.believes(0, hours));
            }
        });
    }

    private static void when() {
        e.sentence("14: AT a YARD (0 to 16)", () -> {
            e.range(() -> {
                FaithRails x = new FaithRails();
                Edges.needs(x, 0, 15, 0);
                return x;
            }, "when(v)", 0, 16, (x, v) -> x.when(v));
            e.outside(Edges::busy, "when(v)", 0, 16, (x, v) -> x.when(v));
        });
        e.sentence("14: Behind how many HOURS (0 to 100, the fewest)", () -> {
            for (int yard = 0; yard <= 16; yard++) {
                int asked = yard;
                e.asked(() -> waitsAt(asked, 0), "when(" + yard + ")", 0, x -> x.when(asked));
                e.asked(() -> Edges.slow(0), "when(" + yard + ")", yard == 0 ? 0 : 49 + yard, x -> x.when(asked));
            }
        });
        e.sentence("14: NONE", () -> {
            e.refused(Edges::anew, "when(v)", Edges.NONE, (x, v) -> x.when(v), 1, 16);
            e.refused(() -> waitsAt(16, 0), "when(v)", Edges.NONE, (x, v) -> x.when(v), 0, 15);
            e.refused(() -> {
                FaithRails x = Edges.slow(0);
                x.need(0, 75);
                return x;
            }, "when(1)", Edges.NONE, x -> x.when(1));
        });
    }

    private static void falls() {
        e.sentence("15: Behind how many HOURS (0 to 100, the fewest) the next one lets THE TRAIN fall short", () -> {
            for (int k = 0; k <= 15; k++) {
                int last = k;
                e.asked(() -> {
                    FaithRails x = new FaithRails();
                    Edges.needs(x, 0, 15, 0);
                    x.need(last, 1);
                    return x;
                }, "falls() before " + k, k, x -> x.falls());
            }
        });
        e.sentence("15: NONE", () -> {
            e.refused(() -> waitsAt(16, 0), "falls()", Edges.NONE, x -> x.falls());
            e.refused(() -> {
                FaithRails x = new FaithRails();
                Edges.needs(x, 0, 15, 0);
                return x;
            }, "falls()", Edges.NONE, x -> x.falls());
        });
    }

    private static void settles() {
        e.sentence("16: Behind how many HOURS (0 to 100, the fewest)", () -> {
            e.asked(Edges::anew, "settles()", 0, x -> x.settles());
            e.asked(() -> waitsAt(16, 3), "settles()", 0, x -> x.settles());
            e.asked(() -> Edges.slow(0), "settles()", 65, x -> x.settles());
            e.asked(() -> longLoss(), "settles()", 100, x -> x.settles());
        });
        e.sentence("16: NONE: behind 101 HOURS is too late", () -> e.refused(() -> {
            FaithRails x = longLoss();
            x.need(1, 0);
            return x;
        }, "settles()", Edges.NONE, x -> x.settles()));
        e.sentence("16: one more leaves THE TRAIN's YARD as it is: an hour of belief alone is none", () -> {
            FaithRails x = one(9, 50);
            Edges.needs(x, 0, 2, 0);
            e.due("settles()", x.settles(), 3);
        });
        e.sentence("16: and BELIEF of each as they are: also as all together stays", () -> {
            FaithRails x = one(9, 10);
            Edges.add(x, Edges.RIDER, 9, 12);
            e.due("settles()", x.settles(), 1);
        });
        e.sentence("16: FALLS and HOUR may go on", () -> {
            FaithRails x = one(Edges.ABOARD, 0);
            e.due("settles()", x.settles(), 0);
        });
    }

    private static void there() {
        e.sentence("17: STRETCHES that are THERE behind n (0 to 100) HOURS, as a set", () -> {
            e.range(Edges::busy, "there(v)", 0, 100, (x, v) -> x.there(v));
            int[] n = {0, 1, 50, 51, 99, 100};
            int[] sets = {0b10001, 0b10001, 0b10001, 0b10000, 0b10000, 0};
            for (int i = 0; i < n.length; i++) {
                int hours = n[i];
                e.asked(() -> longLoss(), "there(" + hours + ")", sets[i], x -> x.there(hours));
            }
        });
        e.sentence("17: a set: none, all", () -> {
            e.asked(Edges::anew, "there(100)", 0, x -> x.there(100));
            e.asked(() -> {
                FaithRails x = new FaithRails();
                Edges.needs(x, 0, 15, 0);
                return x;
            }, "there(100)", 65535, x -> x.there(100));
        });
        e.sentence("17: by the FALLS of then, though the train and all BELIEF have settled", () -> {
            // A banker who waits brings 119 less the falls, 30 at most.
            int[] n = {0, 29, 30, 31, 100};
            int[] due = {1, 1, 0, 0, 0};
            for (int i = 0; i < n.length; i++) {
                FaithRails x = new FaithRails();
                Edges.needs(x, 0, 15, 999);
                Edges.add(x, Edges.BANKER, 16, 99);
                x.need(15, 90);
                e.due("there(" + n[i] + ")", x.there(n[i]), due[i] << 15);
            }
        });
    }

    public static void main(String[] args) {
        newObject();
        need();
        stretch();
        person();
        of();
        change();
        set();
        board();
        leave();
        go();
        now();
        ahead();
        believes();
        when();
        falls();
        settles();
        there();
        e.end();
    }
}
