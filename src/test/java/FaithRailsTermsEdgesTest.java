/** The edges that the document's Terms name, a test a sentence; those of texts and sheets are in another test. */
public final class FaithRailsTermsEdgesTest {
    private static final Edges e = new Edges();

    private static FaithRails one(int kind, int where, int belief) {
        FaithRails x = new FaithRails();
        Edges.add(x, kind, where, belief);
        return x;
    }

    private static int faith(int kind, int belief, int night) {
        FaithRails x = one(kind, 9, belief);
        x.set(Edges.NIGHT, night);
        return x.of(0, 3);
    }

    /** What one alone has as faith behind some falls. */
    private static int faithBehindFalls(int kind, int belief, int falls) {
        FaithRails x = one(kind, 9, belief);
        x.need(0, 999);
        for (int i = 0; i < falls; i++) {
            x.go(1);
        }
        return x.of(0, 3);
    }

    // ---- findings

    private static void findings() {
        e.sentence("FINDINGS are answers below -1000000: LOW is -1000001; LOW BEYOND", () ->
                e.due("need(16, 0)", Edges.anew().need(16, 0), -1000001));
        e.sentence("LOW - 1 FULL", () -> e.due("feed", Edges.full().feed(0, 1), -1000002));
        e.sentence("LOW - 2 KIND", () -> {
            FaithRails x = one(Edges.RIDER, 0, 50);
            x.hold(0, 0);
            e.due("as(0, 1)", x.as(0, Edges.DOUBTER), -1000003);
        });
        e.sentence("LOW - 3 NONE", () -> e.due("undo()", Edges.anew().undo(), -1000004));
        e.sentence("LOW - 4 STATE", () -> e.due("leave(0)", one(Edges.RIDER, 0, 50).leave(0), -1000005));
        e.sentence("LOW - 5 MISSING", () -> e.due("load(0)", Edges.anew().load(0), -1000006));
        e.sentence("LOW - 6 SIZE", () -> e.due("sheet(0, 8, -1)", Edges.anew().sheet(0, 8, -1), -1000007));
        e.sentence("(in longs, too)", () -> e.due("odds(15, 0)", Edges.anew().odds(15, 0), -1000001L));
        e.sentence("z may be any int: that is no finding", () -> {
            for (int v : new int[] {-1000000, -1000001, -1000002, -1000003, -1000004, -1000005, -1000006, -1000007,
                -1000008, Edges.MIN, Edges.MAX}) {
                FaithRails x = new FaithRails();
                e.due("seed", x.seed(v), 1);
                e.due("count(6)", x.count(6), v);
                e.due("seed", x.seed(0), v);
                for (int which = -1; which <= 6; which++) {
                    e.due("status(" + which + ") behind a z of " + v, x.status(which), 0);
                }
            }
        });
        e.sentence("one that answers a finding changes nothing but status(): each counts as what it is, once", () -> {
            Edges.Scene held = () -> {
                FaithRails x = Edges.full();
                x.hold(0, 0);
                x.tear();
                return x;
            };
            e.refused(held, "need(16, 0)", Edges.BEYOND, x -> x.need(16, 0));
            e.refused(held, "person(0, 0)", Edges.FULL, x -> x.person(0, 0));
            e.refused(held, "as(0, 6)", Edges.KIND, x -> x.as(0, Edges.SCEPTIC));
            e.refused(held, "undo()", Edges.NONE, x -> x.undo());
            e.refused(held, "leave(7)", Edges.STATE, x -> x.leave(7));
            e.refused(held, "load(0)", Edges.MISSING, x -> x.load(0));
            e.refused(held, "sheet(1, 8, -1)", Edges.SIZE, x -> x.sheet(1, 8, -1));
        });
    }

    private static void sharedTerms() {
        e.sentence("An object is used for at most 512 calls: the 512th is answered", () -> {
            FaithRails x = new FaithRails();
            for (int i = 1; i < 512; i++) {
                x.go(60);
            }
            e.due("the 512th call", x.count(0), 511 * 60);
        });
        e.sentence("Quotients are cut (towards 0)", () -> {
            e.due("half of 1", faith(Edges.DOUBTER, 1, 0), 0);
            e.due("half of 99", faith(Edges.DOUBTER, 99, 0), 49);
            FaithRails x = one(Edges.RIDER, 9, 0);
            Edges.add(x, Edges.RIDER, 9, 1);
            x.go(1);
            e.due("the one of 0 by a mean of 0.5", x.of(0, 2), 0);
            e.due("the one of 1 by a mean of 0.5", x.of(1, 2), 0);
        });
        e.sentence("Sets are told as bits: the first and the last", () -> {
            FaithRails x = new FaithRails();
            for (int i = 0; i < 8; i++) {
                x.person(Edges.RIDER, 5);
            }
            Edges.needs(x, 0, 15, 999);
            x.change(7, 1, Edges.ABOARD);
            e.due("the last aboard", x.now(2), 128);
            x.change(0, 1, Edges.ABOARD);
            e.due("the first and the last aboard", x.now(2), 129);
            x.need(15, 0);
            e.due("the last stretch", x.now(3), 32768);
            x.need(0, 0);
            e.due("the first and the last stretch", x.now(3), 32769);
        });
        e.sentence("of several that would do the least number counts, where nothing else is told", () -> {
            FaithRails x = one(Edges.RIDER, 3, 50);
            Edges.add(x, Edges.RIDER, Edges.ABOARD, 50);
            Edges.add(x, Edges.RIDER, Edges.ABOARD, 50);
            e.due("kindFor", x.kindFor(1, 0), 0);
            e.due("seat", x.seat(1, 0), 0);
            e.due("farthest", x.farthest(0), 0);
            e.due("without", x.without(0), 1);
        });
    }

    // ---- the line

    private static void line() {
        e.sentence("YARDS 0 to 16: the train can be at each", () -> {
            for (int yard = 0; yard <= 16; yard++) {
                FaithRails x = new FaithRails();
                x.set(Edges.TRAIN, yard);
                e.due("now(1)", x.now(1), yard);
            }
        });
        e.sentence("STRETCH k (0 to 15) leads from YARD k to k + 1", () -> {
            for (int k = 0; k <= 15; k++) {
                FaithRails x = new FaithRails();
                x.need(k, 0);
                x.set(Edges.TRAIN, k);
                e.due("go(1) from " + k, x.go(1), k + 1);
                e.due("go(1) again from " + k, x.go(1), k + 1);
                e.due("falls by then from " + k, x.now(4), k == 15 ? 0 : 1);
            }
        });
        e.sentence("has a NEED (0 to 999; 50 at first)", () -> {
            for (int k = 0; k <= 15; k++) {
                FaithRails x = new FaithRails();
                e.due("need at first", x.need(k, 999), 50);
                e.due("the most", x.need(k, 0), 999);
                e.due("the least", x.need(k, 1), 0);
            }
        });
        e.sentence("THE TRAIN is AT a YARD (0 at first)", () -> e.due("now(1)", Edges.anew().now(1), 0));
        e.sentence("NIGHT: 0 or 1 (0 at first)", () -> e.due("now(5)", Edges.anew().now(5), 0));
        e.sentence("PEOPLE 0, 1, .. (at most 8)", () -> {
            FaithRails x = new FaithRails();
            for (int i = 0; i < 8; i++) {
                e.due("person", x.person(Edges.RIDER, 0), i);
            }
            e.due("the ninth", x.person(Edges.RIDER, 0), Edges.FULL);
            e.due("people", x.count(1), 8);
        });
        e.sentence("WHERE: a YARD (waits there) or ABOARD (-1)", () -> {
            for (int where = -1; where <= 16; where++) {
                e.due("where", one(Edges.RIDER, where, 50).of(0, 1), where);
                e.due("aboard", one(Edges.RIDER, where, 50).now(2), where == -1 ? 1 : 0);
            }
        });
        e.sentence("with BELIEF (0 to 99; 50 at first)", () -> {
            FaithRails x = new FaithRails();
            x.person(Edges.SCEPTIC, 16);
            e.due("belief at first", x.change(0, 2, 0), 50);
            e.due("the least", x.change(0, 2, 99), 0);
            e.due("the most", x.change(0, 2, 1), 99);
        });
    }

    private static void faiths() {
        e.sentence("RIDER: BELIEF", () -> {
            e.due("of 0", faith(Edges.RIDER, 0, 0), 0);
            e.due("of 99", faith(Edges.RIDER, 99, 0), 99);
            e.due("of 99 at night", faith(Edges.RIDER, 99, 1), 99);
        });
        e.sentence("DOUBTER: half (cut) that of a RIDER", () -> {
            int[] beliefs = {0, 1, 2, 3, 98, 99};
            int[] halves = {0, 0, 1, 1, 49, 49};
            for (int i = 0; i < beliefs.length; i++) {
                e.due("of " + beliefs[i], faith(Edges.DOUBTER, beliefs[i], 0), halves[i]);
                e.due("at night of " + beliefs[i], faith(Edges.DOUBTER, beliefs[i], 1), halves[i]);
            }
        });
        e.sentence("SCEPTIC: as a DOUBTER, less 20 .. (It may be below 0.)", () -> {
            int[] beliefs = {0, 1, 38, 39, 40, 41, 42, 99};
            int[] faiths = {-20, -20, -1, -1, 0, 0, 1, 29};
            for (int i = 0; i < beliefs.length; i++) {
                e.due("of " + beliefs[i], faith(Edges.SCEPTIC, beliefs[i], 0), faiths[i]);
                e.due("at night of " + beliefs[i], faith(Edges.SCEPTIC, beliefs[i], 1), faiths[i]);
            }
        });
        e.sentence("PROPHET: as a RIDER, and 20, if it isn't NIGHT", () -> {
            e.due("of 0", faith(Edges.PROPHET, 0, 0), 20);
            e.due("of 99", faith(Edges.PROPHET, 99, 0), 119);
            e.due("of 0 at night", faith(Edges.PROPHET, 0, 1), 0);
            e.due("of 99 at night", faith(Edges.PROPHET, 99, 1), 99);
            e.due("behind 40 falls", faithBehindFalls(Edges.PROPHET, 99, 40), 119);
        });
        e.sentence("BANKER: as a PROPHET, less how often THE TRAIN fell short ever (FALLS), 30 at most", () -> {
            int[] falls = {0, 1, 29, 30, 31, 60};
            int[] faiths = {119, 118, 90, 89, 89, 89};
            for (int i = 0; i < falls.length; i++) {
                e.due("behind " + falls[i] + " falls", faithBehindFalls(Edges.BANKER, 99, falls[i]), faiths[i]);
            }
            e.due("of 0 behind 20 falls", faithBehindFalls(Edges.BANKER, 0, 20), 0);
            e.due("of 0 behind 21 falls", faithBehindFalls(Edges.BANKER, 0, 21), -1);
            e.due("of 99 at night", faith(Edges.BANKER, 99, 1), 99);
        });
        e.sentence("fell short ever: also before an hour on the rails", () -> {
            FaithRails x = one(Edges.BANKER, 9, 50);
            x.go(2);
            x.need(0, 0);
            e.due("go(1)", x.go(1), 1);
            e.due("faith", x.of(0, 3), 68);
        });
        e.sentence("CHILD: as a RIDER, twice at NIGHT", () -> {
            e.due("of 99", faith(Edges.CHILD, 99, 0), 99);
            e.due("of 99 at night", faith(Edges.CHILD, 99, 1), 198);
            e.due("of 0 at night", faith(Edges.CHILD, 0, 1), 0);
        });
        sellers();
    }

    private static void sellers() {
        e.sentence("SELLER: as a BANKER", () -> {
            e.due("alone", faith(Edges.SELLER, 99, 0), 119);
            e.due("alone at night", faith(Edges.SELLER, 99, 1), 99);
            e.due("behind 31 falls", faithBehindFalls(Edges.SELLER, 99, 31), 89);
        });
        e.sentence("and 5 for each other that is WHERE it is", () -> {
            for (int where = -1; where <= 16; where++) {
                FaithRails x = one(Edges.SELLER, where, 50);
                e.due("alone", x.of(0, 3), 70);
                for (int others = 1; others <= 7; others++) {
                    x.person(others % 7, where);
                    e.due("with " + others + " others at " + where, x.of(0, 3), 70 + 5 * others);
                }
            }
        });
        e.sentence("that is WHERE it is: ABOARD isn't AT the YARD of THE TRAIN", () -> {
            FaithRails x = one(Edges.SELLER, Edges.ABOARD, 50);
            Edges.add(x, Edges.SELLER, 0, 50);
            Edges.add(x, Edges.RIDER, 1, 50);
            e.due("aboard", x.of(0, 3), 70);
            e.due("at the train's yard", x.of(1, 3), 70);
        });
    }

    private static void sums() {
        e.sentence("SUM at a STRETCH: FAITH of all ABOARD", () -> {
            FaithRails x = one(Edges.RIDER, Edges.ABOARD, 30);
            e.due("one", x.stretch(15, 1), 30);
            Edges.add(x, Edges.SCEPTIC, Edges.ABOARD, 0);
            for (int k = 0; k <= 15; k++) {
                e.due("with one below 0", x.stretch(k, 1), 10);
            }
            x.change(0, 2, 0);
            e.due("below 0", x.stretch(0, 1), -20);
            e.due("of nobody", Edges.anew().stretch(0, 1), 0);
        });
        e.sentence("of each who waits: its FAITH less 10 times how many YARDS its own is from the nearer YARD "
                + "of the STRETCH (0, if it is that)", () -> {
            FaithRails x = one(Edges.RIDER, 5, 99);
            int[] sums = {59, 69, 79, 89, 99, 99, 89, 79, 69, 59, 49, 39, 29, 19, 9, 0};
            for (int k = 0; k <= 15; k++) {
                e.due("stretch(" + k + ", 1)", x.stretch(k, 1), sums[k]);
            }
            FaithRails first = one(Edges.RIDER, 0, 99);
            e.due("from yard 0 at its stretch", first.stretch(0, 1), 99);
            e.due("from yard 0 at the next", first.stretch(1, 1), 89);
            FaithRails last = one(Edges.RIDER, 16, 99);
            e.due("from yard 16 at its stretch", last.stretch(15, 1), 99);
            e.due("from yard 16 at the one before", last.stretch(14, 1), 89);
        });
        e.sentence("if that is above 0", () -> {
            FaithRails x = one(Edges.RIDER, 5, 21);
            e.due("1", x.stretch(7, 1), 1);
            e.due("-9", x.stretch(8, 1), 0);
            x.change(0, 2, 20);
            e.due("0", x.stretch(7, 1), 0);
            x.change(0, 2, 19);
            e.due("-1", x.stretch(7, 1), 0);
            e.due("a sceptic's -20 at its own yard", one(Edges.SCEPTIC, 5, 0).stretch(5, 1), 0);
        });
        e.sentence("The STRETCH is THERE, if SUM is NEED or more", () -> {
            FaithRails x = one(Edges.RIDER, Edges.ABOARD, 50);
            e.due("as much", x.stretch(0, 2), 1);
            x.need(0, 49);
            e.due("more", x.stretch(0, 2), 1);
            x.need(0, 51);
            e.due("less", x.stretch(0, 2), 0);
            FaithRails none = new FaithRails();
            none.need(0, 0);
            e.due("0 of 0", none.stretch(0, 2), 1);
            Edges.add(none, Edges.SCEPTIC, Edges.ABOARD, 39);
            e.due("-1 of 0", none.stretch(0, 2), 0);
            Edges.add(none, Edges.RIDER, Edges.ABOARD, 1);
            e.due("0 of 0 again", none.stretch(0, 2), 1);
        });
    }

    // ---- hours

    private static void hours() {
        e.sentence("if THE TRAIN is AT YARD 16, it stays", () -> {
            FaithRails x = one(Edges.SCEPTIC, Edges.ABOARD, 10);
            x.set(Edges.TRAIN, 16);
            e.due("go(1)", x.go(1), 16);
            e.due("belief", x.of(0, 2), 10);
            e.due("falls", x.now(4), 0);
            e.due("hour", x.now(0), 1);
            x.set(Edges.TRAIN, 15);
            e.due("go(1) at yard 15", x.go(1), 15);
            e.due("falls at yard 15", x.now(4), 1);
        });
        e.sentence("if the STRETCH that leads on is THERE, it is AT the next YARD", () -> {
            FaithRails x = one(Edges.RIDER, Edges.ABOARD, 49);
            e.due("of 49", x.go(1), 0);
            x.change(0, 2, 50);
            e.due("of 50", x.go(1), 1);
        });
        e.sentence("BELIEF of each ABOARD is GAIN more (to 99 held)", () -> {
            int[] before = {0, 96, 97, 99};
            int[] then = {3, 99, 99, 99};
            for (int i = 0; i < before.length; i++) {
                FaithRails x = one(Edges.RIDER, Edges.ABOARD, before[i]);
                x.need(0, 0);
                x.go(1);
                e.due("belief of " + before[i], x.of(0, 2), then[i]);
            }
            FaithRails x = one(Edges.RIDER, 0, 10);
            x.need(0, 0);
            x.go(1);
            e.due("one who waits where the train was", x.of(0, 2), 10);
        });
        e.sentence("else FALLS are one more", () -> {
            FaithRails x = new FaithRails();
            x.go(1);
            e.due("one", x.now(4), 1);
            x.go(60);
            e.due("61", x.now(4), 61);
        });
        e.sentence("BELIEF of each ABOARD is LOSS less (0 held)", () -> {
            int[] before = {6, 5, 4, 0};
            int[] then = {1, 0, 0, 0};
            for (int i = 0; i < before.length; i++) {
                FaithRails x = one(Edges.RIDER, Edges.ABOARD, before[i]);
                x.go(1);
                e.due("belief of " + before[i], x.of(0, 2), then[i]);
            }
            FaithRails x = one(Edges.RIDER, 0, 10);
            x.go(1);
            e.due("one who waits where the train is", x.of(0, 2), 10);
        });
        e.sentence("GAIN (0 to 20; 3 at first)", () -> gains(Edges.GAIN, 0, new int[] {43, 40, 41, 60}));
        e.sentence("LOSS (0 to 20; 5 at first)", () -> gains(Edges.LOSS, 999, new int[] {35, 40, 39, 20}));
        lastHours();
    }

    /** What one aboard who believes 40 believes behind an hour: by the first gain or loss, by 0, by 1, by 20. */
    private static void gains(int what, int need, int[] then) {
        int[] by = {-1, 0, 1, 20};
        for (int i = 0; i < by.length; i++) {
            FaithRails x = one(Edges.RIDER, Edges.ABOARD, 40);
            x.need(0, need);
            x.set(what, by[i]);
            x.go(1);
            e.due("belief by " + by[i], x.of(0, 2), then[i]);
        }
    }

    private static void lastHours() {
        e.sentence("FALLS (99999 at most), HOUR (99999 at most)", () -> {
            FaithRails x = Edges.atHour(99998);
            e.due("HOUR", x.now(0), 99998);
            e.due("FALLS", x.now(4), 99998);
            x.go(1);
            e.due("HOUR", x.now(0), 99999);
            e.due("FALLS", x.now(4), 99999);
            e.due("what will be is told still", x.ahead(100), 0);
            x.go(1);
            e.due("HOUR", x.now(0), 99999);
            e.due("FALLS", x.now(4), 99999);
        });
        e.sentence("HOUR is one more, also at YARD 16", () -> {
            FaithRails x = new FaithRails();
            x.go(1);
            x.set(Edges.TRAIN, 16);
            x.go(60);
            e.due("HOUR", x.now(0), 61);
        });
    }

    private static void beliefsBecome(String who, FaithRails x, int... then) {
        x.go(1);
        for (int p = 0; p < then.length; p++) {
            e.due("belief of " + p + " of " + who, x.of(p, 2), then[p]);
        }
    }

    private static FaithRails waiting(int... beliefs) {
        FaithRails x = new FaithRails();
        for (int belief : beliefs) {
            Edges.add(x, Edges.RIDER, 9, belief);
        }
        return x;
    }

    private static void sway() {
        e.sentence("BELIEF of each goes one nearer to the mean", () -> {
            beliefsBecome("two far away", waiting(0, 99), 1, 98);
            beliefsBecome("three, one at the mean", waiting(10, 20, 30), 11, 20, 29);
            beliefsBecome("two that agree", waiting(99, 99), 99, 99);
            beliefsBecome("one alone", waiting(7), 7);
        });
        e.sentence("the mean (cut)", () -> {
            beliefsBecome("0 and 1", waiting(0, 1), 0, 0);
            beliefsBecome("seven of 0 and one of 7", waiting(0, 0, 0, 0, 0, 0, 0, 7), 0, 0, 0, 0, 0, 0, 0, 6);
            beliefsBecome("seven of 0 and one of 8", waiting(0, 0, 0, 0, 0, 0, 0, 8), 1, 1, 1, 1, 1, 1, 1, 7);
            beliefsBecome("seven of 99 and one of 98", waiting(99, 99, 99, 99, 99, 99, 99, 98),
                    98, 98, 98, 98, 98, 98, 98, 98);
        });
        e.sentence("by what all believe then: the first's step isn't the second's", () ->
                // By one after another the first's 1 would make the mean of the others 1.
                beliefsBecome("1, 1, 0 and 3", waiting(1, 1, 0, 3), 1, 1, 1, 2));
        e.sentence("by what all believe then: behind the hour's GAIN", () -> {
            FaithRails x = new FaithRails();
            x.need(0, 0);
            x.set(Edges.GAIN, 20);
            Edges.add(x, Edges.RIDER, Edges.ABOARD, 97);
            Edges.add(x, Edges.RIDER, Edges.ABOARD, 79);
            // 99 and 99 then: no sway is left.
            beliefsBecome("two aboard", x, 99, 99);
        });
        e.sentence("by what all believe then: behind the hour's LOSS", () -> {
            FaithRails x = new FaithRails();
            Edges.add(x, Edges.RIDER, Edges.ABOARD, 5);
            Edges.add(x, Edges.RIDER, Edges.ABOARD, 2);
            beliefsBecome("two aboard", x, 0, 0);
        });
        e.sentence("of all that are WHERE it is", () -> {
            FaithRails x = waiting(10, 20);
            Edges.add(x, Edges.RIDER, 8, 99);
            Edges.add(x, Edges.RIDER, Edges.ABOARD, 60);
            Edges.add(x, Edges.RIDER, 0, 0);
            x.set(Edges.GAIN, 0);
            beliefsBecome("two yards and the train", x, 11, 19, 99, 60, 0);
        });
        e.sentence("(itself, too)", () ->
                // Without itself each 0 would look at a mean of 1.
                beliefsBecome("0, 0 and 2", waiting(0, 0, 2), 0, 0, 1));
        e.sentence("Then SWAY: also AT YARD 16, and ABOARD", () -> {
            FaithRails x = waiting(0, 9);
            x.set(Edges.TRAIN, 16);
            Edges.add(x, Edges.RIDER, Edges.ABOARD, 40);
            Edges.add(x, Edges.RIDER, Edges.ABOARD, 50);
            beliefsBecome("all", x, 1, 8, 41, 49);
        });
    }

    private static void draws() {
        e.sentence("z is told (1 at first)", () -> {
            e.due("count(6)", Edges.anew().count(6), 1);
            e.due("seed", Edges.anew().seed(5), 1);
        });
        e.sentence("each makes it z * 1103515245 + 12345 (an int)", () -> {
            int[] before = {0, 1, 2, -1, Edges.MAX, Edges.MIN};
            int[] then = {12345, 1103527590, -2087924461, -1103502900, 1043980748, -2147471303};
            for (int i = 0; i < before.length; i++) {
                FaithRails x = new FaithRails();
                x.seed(before[i]);
                x.gold(1);
                e.due("z behind " + before[i], x.count(6), then[i]);
            }
        });
        e.sentence("and gives z >>> 8: also of a z below 0", () -> {
            // Behind -1 z is -1103502900: as bits it is 3191464396, which gives 12466657, and 1 by 16.
            FaithRails x = new FaithRails();
            x.seed(-1);
            x.gold(1);
            for (int k = 0; k <= 15; k++) {
                e.due("need of " + k, x.stretch(k, 0), k == 1 ? 40 : 50);
            }
        });
    }

    public static void main(String[] args) {
        findings();
        sharedTerms();
        line();
        faiths();
        sums();
        hours();
        sway();
        draws();
        e.end();
    }
}
