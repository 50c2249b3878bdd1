/** The edges that promises 18 to 31 name: who should ride, whose doubt, bankers. A test a sentence. */
public final class FaithRailsRidersEdgesTest {
    private static final Edges e = new Edges();

    private static FaithRails one(int where, int belief) {
        FaithRails x = new FaithRails();
        Edges.add(x, Edges.RIDER, where, belief);
        return x;
    }

    /** All rails are there; the train is at a yard. */
    private static FaithRails open(int yard) {
        FaithRails x = one(Edges.ABOARD, 50);
        Edges.needs(x, 0, 15, 0);
        x.set(Edges.TRAIN, yard);
        return x;
    }

    private static Edges.Scene slow5() {
        return () -> Edges.slow(5);
    }

    private static void hours(String call, Edges.CallOf act) {
        e.range(Edges::busy, call, 0, 60, act);
    }

    private static void people(String call, Edges.CallOf act) {
        e.range(Edges::busy, call, 0, 4, act);
        e.range(Edges::full, call, 0, 7, act);
        e.refused(Edges::anew, call, Edges.BEYOND, act, 0);
    }

    // ---- 18 to 21

    private static void kindFor() {
        e.sentence("18: one (of those that there are)", () -> people("kindFor(v, 60)", (x, v) -> x.kindFor(v, 60)));
        e.sentence("18: in n (0 to 60) HOURS", () -> {
            hours("kindFor(0, v)", (x, v) -> x.kindFor(0, v));
            // As a seller it goes on at once, as a prophet in the 10th hour, as a rider in the 50th.
            e.asked(slow5(), "kindFor(0, 0)", Edges.RIDER, x -> x.kindFor(0, 0));
            e.asked(slow5(), "kindFor(0, 1)", Edges.SELLER, x -> x.kindFor(0, 1));
            e.asked(slow5(), "kindFor(0, 19)", Edges.SELLER, x -> x.kindFor(0, 19));
            e.asked(slow5(), "kindFor(0, 20)", Edges.PROPHET, x -> x.kindFor(0, 20));
            e.asked(slow5(), "kindFor(0, 59)", Edges.PROPHET, x -> x.kindFor(0, 59));
            e.asked(slow5(), "kindFor(0, 60)", Edges.RIDER, x -> x.kindFor(0, 60));
        });
        e.sentence("18: The KIND: of several the least number", () -> {
            e.asked(() -> open(0), "kindFor(0, 60)", Edges.RIDER, x -> x.kindFor(0, 60));
            e.asked(() -> open(16), "kindFor(0, 60)", Edges.RIDER, x -> x.kindFor(0, 60));
        });
        e.sentence("18: The KIND: also a 6th", () -> {
            FaithRails x = one(0, 30);
            x.set(Edges.NIGHT, 1);
            e.due("kindFor(0, 1)", x.kindFor(0, 1), Edges.CHILD);
        });
    }

    private static void with() {
        e.sentence("19: a set of PEOPLE: BEYOND: of those that there are", () -> {
            e.range(Edges::busy, "with(v, 60)", 0, 31, (x, v) -> x.with(v, 60));
            e.range(Edges::full, "with(v, 60)", 0, 255, (x, v) -> x.with(v, 60));
            e.range(Edges::anew, "with(v, 60)", 0, 0, (x, v) -> x.with(v, 60));
            e.refused(Edges::busy, "with(v, 0)", Edges.BEYOND, (x, v) -> x.with(v, 0), 32, 64, 1 << 30, -2, -31, 63);
        });
        e.sentence("19: in n (0 to 60) HOURS", () -> {
            hours("with(0, v)", (x, v) -> x.with(0, v));
            e.asked(slow5(), "with(0, 0)", 5, x -> x.with(0, 0));
            e.asked(slow5(), "with(0, 59)", 15, x -> x.with(0, 59));
            e.asked(slow5(), "with(0, 60)", 16, x -> x.with(0, 60));
        });
        e.sentence("19: BEYOND: of both one alone", () ->
                e.refused(Edges::busy, "with(32, 61)", Edges.BEYOND, x -> x.with(32, 61)));
        e.sentence("of all PEOPLE: some ABOARD, the others wait where THE TRAIN is", () -> {
            // All that is needed is 20 aboard at yard 9, where nobody is.
            Edges.Scene scene = () -> {
                FaithRails x = one(0, 10);
                Edges.add(x, Edges.RIDER, Edges.ABOARD, 10);
                Edges.needs(x, 0, 15, 20);
                x.set(Edges.TRAIN, 9);
                x.set(Edges.GAIN, 0);
                return x;
            };
            e.asked(scene, "with(0, 60)", 10, x -> x.with(0, 60));
            e.asked(scene, "with(1, 60)", 10, x -> x.with(1, 60));
            e.asked(scene, "with(3, 60)", 16, x -> x.with(3, 60));
        });
    }

    private static void fewest() {
        e.sentence("20: it gets to a YARD (0 to 16)", () -> {
            e.range(() -> open(0), "fewest(v, 60)", 0, 16, (x, v) -> x.fewest(v, 60));
            e.outside(Edges::busy, "fewest(v, 60)", 0, 16, (x, v) -> x.fewest(v, 60));
        });
        e.sentence("20: in n (0 to 60) HOURS", () -> {
            hours("fewest(0, v)", (x, v) -> x.fewest(0, v));
            e.asked(Edges::slowToTheEnd, "fewest(15, 59)", 0, x -> x.fewest(15, 59));
            e.refused(Edges::slowToTheEnd, "fewest(15, 58)", Edges.NONE, x -> x.fewest(15, 58));
            e.asked(Edges::slowToTheEnd, "fewest(16, 60)", 4, x -> x.fewest(16, 60));
            e.refused(Edges::slowToTheEnd, "fewest(16, 59)", Edges.NONE, x -> x.fewest(16, 59));
        });
        e.sentence("20: (or beyond it)", () -> {
            e.asked(() -> open(0), "fewest(1, 2)", 0, x -> x.fewest(1, 2));
            e.asked(() -> open(9), "fewest(8, 0)", 0, x -> x.fewest(8, 0));
            e.asked(() -> open(16), "fewest(0, 60)", 0, x -> x.fewest(0, 60));
        });
        e.sentence("20: of fewest; of several the least", () -> {
            // Ten each: two are needed aboard behind yard 0, of the last two each brings as much as two.
            FaithRails x = new FaithRails();
            for (int i = 0; i < 4; i++) {
                Edges.add(x, Edges.RIDER, 0, 10);
            }
            Edges.needs(x, 0, 15, 20);
            x.set(Edges.GAIN, 0);
            x.set(Edges.LOSS, 0);
            e.due("two of four: the least", x.fewest(16, 60), 0b0011);
            x.change(2, 0, Edges.PROPHET);
            x.change(3, 0, Edges.PROPHET);
            e.due("one of the last two: fewer, though a greater number", x.fewest(16, 60), 0b0100);
        });
        e.sentence("20: The set: nobody, all", () -> {
            e.asked(Edges::anew, "fewest(0, 0)", 0, x -> x.fewest(0, 0));
            FaithRails x = new FaithRails();
            for (int i = 0; i < 8; i++) {
                Edges.add(x, Edges.RIDER, 9, 10);
            }
            Edges.needs(x, 0, 15, 80);
            x.set(Edges.GAIN, 0);
            e.due("all eight", x.fewest(16, 60), 255);
        });
        e.sentence("20: NONE", () -> {
            e.refused(Edges::anew, "fewest(1, 60)", Edges.NONE, x -> x.fewest(1, 60));
            e.refused(() -> open(3), "fewest(4, 0)", Edges.NONE, x -> x.fewest(4, 0));
        });
        e.sentence("20: BEYOND. NONE.: BEYOND is asked first", () -> {
            e.refused(Edges::anew, "fewest(16, v)", Edges.BEYOND, (x, v) -> x.fewest(16, v), -1, 61);
            e.refused(Edges::anew, "fewest(17, 60)", Edges.BEYOND, x -> x.fewest(17, 60));
        });
    }

    private static void farthest() {
        e.sentence("21: in n (0 to 60) HOURS", () -> {
            hours("farthest(v)", (x, v) -> x.farthest(v));
            e.range(Edges::anew, "farthest(v)", 0, 60, (x, v) -> x.farthest(v));
            e.asked(Edges::slowToTheEnd, "farthest(59)", 0, x -> x.farthest(59));
            // The first two aboard sway as they would at the yard, and bring it along.
            e.asked(Edges::slowToTheEnd, "farthest(60)", 3, x -> x.farthest(60));
        });
        e.sentence("21: of several the least: also if it isn't of fewest", () -> {
            FaithRails x = one(0, 10);
            Edges.add(x, Edges.RIDER, 0, 10);
            Edges.add(x, Edges.PROPHET, 0, 10);
            Edges.needs(x, 0, 15, 20);
            x.set(Edges.GAIN, 0);
            x.set(Edges.LOSS, 0);
            e.due("farthest(60)", x.farthest(60), 0b011);
            e.due("fewest(16, 60)", x.fewest(16, 60), 0b100);
        });
        e.sentence("21: The set: nobody, all", () -> {
            e.asked(Edges::anew, "farthest(60)", 0, x -> x.farthest(60));
            FaithRails x = new FaithRails();
            for (int i = 0; i < 8; i++) {
                Edges.add(x, Edges.RIDER, 9, 10);
            }
            Edges.needs(x, 0, 15, 80);
            x.set(Edges.GAIN, 0);
            e.due("all eight", x.farthest(60), 255);
        });
    }

    // ---- 22 to 25

    private static void without() {
        e.sentence("22: in n (0 to 60) HOURS", () -> {
            hours("without(v)", (x, v) -> x.without(v));
            e.asked(Edges::slowToTheEnd, "without(59)", 2, x -> x.without(59));
            e.asked(Edges::slowToTheEnd, "without(60)", 3, x -> x.without(60));
        });
        e.sentence("22: Of those ABOARD the one: of several the least number", () -> {
            Edges.Scene scene = () -> {
                FaithRails x = one(0, 50);
                Edges.add(x, Edges.RIDER, 16, 50);
                for (int i = 2; i < 8; i++) {
                    Edges.add(x, Edges.RIDER, Edges.ABOARD, 50);
                }
                return x;
            };
            e.asked(scene, "without(0)", 2, x -> x.without(0));
            e.asked(scene, "without(60)", 2, x -> x.without(60));
        });
        e.sentence("22: the one: the last", () -> {
            FaithRails x = one(Edges.ABOARD, 60);
            Edges.add(x, Edges.SCEPTIC, Edges.ABOARD, 0);
            x.set(Edges.GAIN, 0);
            e.due("without(1)", x.without(1), 1);
        });
        e.sentence("22: (it waits where THE TRAIN is)", () -> {
            // Each of the two who is left brings 40 at yard 7 still, and less from there on.
            FaithRails x = one(Edges.ABOARD, 40);
            Edges.add(x, Edges.RIDER, Edges.ABOARD, 41);
            x.set(Edges.TRAIN, 7);
            x.set(Edges.GAIN, 0);
            x.need(7, 81);
            x.need(8, 71);
            e.due("without(60): 41 aboard and 40 less 10", x.without(60), 0);
            x.need(8, 72);
            e.due("without(60): neither gets beyond yard 8", x.without(60), 0);
        });
        e.sentence("22: NONE: nobody is ABOARD", () -> {
            e.refused(Edges::anew, "without(v)", Edges.NONE, (x, v) -> x.without(v), 0, 60);
            e.refused(() -> one(0, 50), "without(v)", Edges.NONE, (x, v) -> x.without(v), 0, 60);
            e.asked(() -> one(Edges.ABOARD, 50), "without(0)", 0, x -> x.without(0));
        });
        e.sentence("22: BEYOND. NONE.: BEYOND is asked first", () ->
                e.refused(Edges::anew, "without(v)", Edges.BEYOND, (x, v) -> x.without(v), -1, 61));
    }

    private static void persuade() {
        e.sentence("23: one (of those that there are)", () ->
                people("persuade(v, 0, 60)", (x, v) -> x.persuade(v, 0, 60)));
        e.sentence("23: gets to a YARD (0 to 16)", () -> {
            e.range(() -> open(0), "persuade(0, v, 60)", 0, 16, (x, v) -> x.persuade(0, v, 60));
            e.outside(Edges::busy, "persuade(0, v, 60)", 0, 16, (x, v) -> x.persuade(0, v, 60));
        });
        e.sentence("23: in n (0 to 60) HOURS", () -> {
            hours("persuade(0, 0, v)", (x, v) -> x.persuade(0, 0, v));
            // With a belief of 1 it is there in the 58th hour, with 2 in the 56th.
            e.asked(slow5(), "persuade(0, 16, 60)", 0, x -> x.persuade(0, 16, 60));
            e.asked(slow5(), "persuade(0, 16, 59)", 1, x -> x.persuade(0, 16, 59));
            e.asked(slow5(), "persuade(0, 16, 58)", 1, x -> x.persuade(0, 16, 58));
            e.asked(slow5(), "persuade(0, 16, 57)", 2, x -> x.persuade(0, 16, 57));
            e.asked(() -> open(4), "persuade(0, 4, 0)", 0, x -> x.persuade(0, 4, 0));
        });
        e.sentence("23: The least BELIEF (0 to 99)", () -> {
            int[] needs = {0, 1, 2, 98, 99};
            for (int need : needs) {
                Edges.Scene scene = () -> {
                    FaithRails x = one(Edges.ABOARD, 50);
                    x.need(0, need);
                    return x;
                };
                e.asked(scene, "persuade(0, 1, 1) at a need of " + need, need, x -> x.persuade(0, 1, 1));
            }
        });
        e.sentence("23: NONE", () -> {
            e.refused(() -> {
                FaithRails x = one(Edges.ABOARD, 50);
                x.need(0, 100);
                return x;
            }, "persuade(0, 1, 60)", Edges.NONE, x -> x.persuade(0, 1, 60));
            e.refused(() -> open(0), "persuade(0, 1, 0)", Edges.NONE, x -> x.persuade(0, 1, 0));
        });
        e.sentence("23: BEYOND. NONE.: BEYOND is asked first", () -> {
            e.refused(Edges::anew, "persuade(0, 16, 0)", Edges.BEYOND, x -> x.persuade(0, 16, 0));
            e.refused(() -> one(0, 50), "persuade(0, 17, 0)", Edges.BEYOND, x -> x.persuade(0, 17, 0));
            e.refused(() -> one(0, 50), "persuade(0, 16, v)", Edges.BEYOND, (x, v) -> x.persuade(0, 16, v), -1, 61);
        });
    }

    private static void bears() {
        e.sentence("24: NEED of a STRETCH (0 to 15)", () -> {
            e.range(() -> open(0), "bears(v, 60)", 0, 15, (x, v) -> x.bears(v, 60));
            e.outside(Edges::busy, "bears(v, 60)", 0, 15, (x, v) -> x.bears(v, 60));
        });
        e.sentence("24: behind n (0 to 60) HOURS", () -> {
            e.range(() -> open(9), "bears(8, v)", 0, 60, (x, v) -> x.bears(8, v));
            e.asked(slow5(), "bears(5, 1)", 49, x -> x.bears(5, 1));
            e.asked(slow5(), "bears(5, 49)", 73, x -> x.bears(5, 49));
            e.asked(slow5(), "bears(5, 50)", 74, x -> x.bears(5, 50));
            e.asked(slow5(), "bears(5, 60)", 74, x -> x.bears(5, 60));
            e.refused(slow5(), "bears(15, 59)", Edges.NONE, x -> x.bears(15, 59));
            e.asked(slow5(), "bears(15, 60)", 0, x -> x.bears(15, 60));
        });
        e.sentence("24: The greatest NEED (0 to 999)", () -> {
            // Six sellers of 99 + 20 + 35 bring 924, and a rider what it believes.
            int[] beliefs = {74, 75, 76};
            int[] greatest = {998, 999, 999};
            for (int i = 0; i < beliefs.length; i++) {
                FaithRails x = one(Edges.ABOARD, beliefs[i]);
                Edges.add(x, Edges.RIDER, Edges.ABOARD, 0);
                for (int seller = 0; seller < 6; seller++) {
                    Edges.add(x, Edges.SELLER, Edges.ABOARD, 99);
                }
                e.due("bears(0, 1)", x.bears(0, 1), greatest[i]);
            }
        });
        e.sentence("24: The greatest NEED: what it is now doesn't count, what another's is does", () -> {
            for (int need : new int[] {0, 60, 61, 999}) {
                e.asked(() -> {
                    FaithRails x = one(Edges.ABOARD, 60);
                    x.need(0, need);
                    return x;
                }, "bears(0, 60) at a need of " + need, 60, x -> x.bears(0, 60));
            }
            // The train could be on the way at once, but bears more if it is kept waiting.
            e.asked(() -> {
                FaithRails x = Edges.slow(5);
                x.need(5, 0);
                return x;
            }, "bears(5, 60) at a need of 0", 74, x -> x.bears(5, 60));
            e.refused(() -> {
                FaithRails x = one(Edges.ABOARD, 60);
                x.need(1, 64);
                return x;
            }, "bears(2, 60) behind a need of 64", Edges.NONE, x -> x.bears(2, 60));
        });
        e.sentence("24: AT a YARD beyond it", () -> {
            e.asked(() -> open(9), "bears(8, 0)", 999, x -> x.bears(8, 0));
            e.refused(() -> open(9), "bears(9, 0)", Edges.NONE, x -> x.bears(9, 0));
            e.asked(() -> open(9), "bears(9, 1)", 50, x -> x.bears(9, 1));
            e.asked(() -> open(16), "bears(15, 0)", 999, x -> x.bears(15, 0));
        });
        e.sentence("24: NONE: with none", () -> {
            FaithRails x = new FaithRails();
            e.due("0 by nobody", x.bears(0, 1), 0);
            Edges.add(x, Edges.SCEPTIC, Edges.ABOARD, 40);
            e.due("0 by a sceptic of 40", x.bears(0, 60), 0);
            e.refused(() -> {
                FaithRails y = new FaithRails();
                Edges.add(y, Edges.SCEPTIC, Edges.ABOARD, 39);
                return y;
            }, "bears(0, 60) by a sceptic of 39", Edges.NONE, y -> y.bears(0, 60));
            e.refused(Edges::anew, "bears(1, 60)", Edges.NONE, y -> y.bears(1, 60));
        });
        e.sentence("24: BEYOND. NONE.: BEYOND is asked first", () -> {
            e.refused(Edges::anew, "bears(16, 0)", Edges.BEYOND, x -> x.bears(16, 0));
            e.refused(Edges::anew, "bears(15, v)", Edges.BEYOND, (x, v) -> x.bears(15, v), -1, 61);
        });
    }

    private static void seat() {
        e.sentence("25: one (of those that there are)", () -> people("seat(v, 60)", (x, v) -> x.seat(v, 60)));
        e.sentence("25: in n (0 to 60) HOURS", () -> {
            hours("seat(0, v)", (x, v) -> x.seat(0, v));
            // Ten are needed at the end, which is reached in the 59th hour.
            Edges.Scene scene = () -> {
                FaithRails x = Edges.slow(5);
                x.need(15, 10);
                Edges.add(x, Edges.RIDER, 0, 10);
                return x;
            };
            e.asked(scene, "seat(2, 59)", 0, x -> x.seat(2, 59));
            e.asked(scene, "seat(2, 60)", 15, x -> x.seat(2, 60));
        });
        e.sentence("25: The YARD: the first, the last", () -> {
            e.asked(() -> open(3), "seat(0, 60)", 0, x -> x.seat(0, 60));
            // The sceptic at yard 15 would lower a belief there, in the hour before it counts.
            FaithRails x = one(Edges.ABOARD, 50);
            Edges.add(x, Edges.SCEPTIC, 15, 0);
            Edges.add(x, Edges.RIDER, 0, 50);
            x.set(Edges.TRAIN, 14);
            x.set(Edges.GAIN, 0);
            x.need(15, 100);
            e.due("seat(2, 60)", x.seat(2, 60), 16);
        });
        e.sentence("25: The YARD: of several the least", () -> {
            FaithRails x = one(0, 50);
            e.due("either end of the stretch", x.seat(0, 1), 0);
            x.set(Edges.TRAIN, 7);
            e.due("either end of stretch 7", x.seat(0, 1), 7);
            x.change(0, 2, 60);
            e.due("one yard off is near enough", x.seat(0, 1), 6);
        });
    }

    // ---- 26 to 28

    private interface Doubt {
        int of(FaithRails x, int s, int person);
    }

    /** Sheets 0 to 2 are empty, so that all fits to them; sheet 3 is missing. */
    private static FaithRails emptySheets(FaithRails x) {
        x.sheet(0, 8, 0);
        x.sheet(1, 16, 0);
        x.sheet(2, 32, 0);
        return x;
    }

    private static FaithRails fortyYards(int last) {
        FaithRails x = Edges.fortyYards();
        x.write(0, 39, last);
        return x;
    }

    private static FaithRails told(FaithRails x, int bits, int... numbers) {
        Edges.sheet(x, 0, bits, numbers);
        return x;
    }

    /** One aboard on the way from yard 0, where a need is to be met. */
    private static FaithRails needing(int need) {
        FaithRails x = one(Edges.ABOARD, 50);
        x.need(0, need);
        return x;
    }

    private static void doubtRefused(String promise, Doubt doubt) {
        Edges.Scene five = () -> emptySheets(Edges.busy());
        e.sentence(promise + ": BEYOND: no such sheet", () ->
                e.outside(five, promise + " of sheet", 0, 3, (x, v) -> doubt.of(x, v, 0)));
        e.sentence(promise + ": MISSING", () -> {
            e.refused(five, promise + " of sheet", Edges.MISSING, (x, v) -> doubt.of(x, v, 0), 3);
            for (int s = 0; s <= 2; s++) {
                int sheet = s;
                e.asked(five, promise + " of sheet " + s, doubt.of(five.made(), 0, 0), x -> doubt.of(x, sheet, 0));
            }
        });
        e.sentence(promise + ": BEYOND: no such one", () -> {
            e.range(five, promise + " of one", 0, 4, (x, v) -> doubt.of(x, 0, v));
            e.range(() -> emptySheets(Edges.full()), promise + " of one", 0, 7, (x, v) -> doubt.of(x, 0, v));
            e.refused(() -> emptySheets(Edges.anew()), promise + " of one", Edges.BEYOND,
                    (x, v) -> doubt.of(x, 0, v), 0);
        });
        e.sentence(promise + ": BEYOND, MISSING, BEYOND: in this order", () -> {
            e.refused(five, promise + " of nobody and sheet", Edges.BEYOND, (x, v) -> doubt.of(x, v, 5), -1, 4);
            e.refused(five, promise + " of the missing sheet and of one", Edges.MISSING,
                    (x, v) -> doubt.of(x, 3, v), -1, 5);
            e.refused(Edges::anew, promise + " of nobody and sheet", Edges.MISSING, (x, v) -> doubt.of(x, v, 0), 0, 3);
        });
    }

    private static void kinds() {
        doubtRefused("26 kinds", (x, s, person) -> x.kinds(s, person));
        e.sentence("26: THE TRAIN's YARDS now", () -> {
            e.asked(() -> told(open(7), 8, 7), "kinds at the yard", 127, x -> x.kinds(0, 0));
            e.asked(() -> told(open(7), 8, 6), "kinds a yard before", 0, x -> x.kinds(0, 0));
            e.asked(() -> told(open(7), 8, 8), "kinds a yard behind", 0, x -> x.kinds(0, 0));
            e.asked(() -> told(open(7), 8), "kinds by no number", 127, x -> x.kinds(0, 0));
        });
        e.sentence("26: and behind each HOUR further on: to the 40th number", () -> {
            // A prophet, banker or seller would have been on the way before; a doubter or sceptic never is.
            e.asked(() -> fortyYards(6), "kinds", 1 << Edges.RIDER | 1 << Edges.CHILD, x -> x.kinds(0, 0));
            e.asked(() -> fortyYards(5), "kinds", 1 << Edges.DOUBTER | 1 << Edges.SCEPTIC, x -> x.kinds(0, 0));
            e.asked(() -> fortyYards(7), "kinds", 0, x -> x.kinds(0, 0));
        });
        e.sentence("26: (-1: any)", () -> {
            e.asked(() -> fortyYards(-1), "kinds", 0b1100011, x -> x.kinds(0, 0));
            e.asked(() -> told(open(7), 8, -1, 8), "of 8 bits", 127, x -> x.kinds(0, 0));
            e.asked(() -> told(open(7), 8, 255, 8), "255 of 8 bits", 127, x -> x.kinds(0, 0));
            e.asked(() -> told(open(7), 16, -1, 65535), "of 16 bits", 127, x -> x.kinds(0, 0));
            e.asked(() -> told(open(7), 16, 255), "255 of 16 bits", 0, x -> x.kinds(0, 0));
            e.asked(() -> told(open(7), 32, -1, 8), "of 32 bits", 127, x -> x.kinds(0, 0));
            e.asked(() -> told(open(7), 32, 65535), "65535 of 32 bits", 0, x -> x.kinds(0, 0));
            e.asked(() -> told(open(7), 8, -2), "-2", 0, x -> x.kinds(0, 0));
            e.asked(() -> told(open(7), 8, -128), "-128", 0, x -> x.kinds(0, 0));
            e.asked(() -> told(open(7), 8, -1, 7), "any first, a wrong one then", 0, x -> x.kinds(0, 0));
        });
    }

    private static void beliefs() {
        doubtRefused("27 beliefs", (x, s, person) -> x.beliefs(s, person));
        doubtRefused("28 least", (x, s, person) -> x.least(s, person));
        e.sentence("27: How many BELIEFS (0 to 99): none, all", () -> {
            e.asked(() -> told(open(7), 8, 6), "beliefs", 0, x -> x.beliefs(0, 0));
            e.asked(() -> told(open(7), 8, 7, 8), "beliefs", 100, x -> x.beliefs(0, 0));
            e.asked(() -> told(open(7), 8), "beliefs by no number", 100, x -> x.beliefs(0, 0));
        });
        e.sentence("27: How many BELIEFS (0 to 99): those that get it on, those that do not", () -> {
            for (int need : new int[] {0, 1, 2, 98, 99, 100}) {
                e.asked(() -> told(needing(need), 8, 0, 1), "on, at " + need, 100 - need, x -> x.beliefs(0, 0));
                e.asked(() -> told(needing(need), 8, 0, 0), "short, at " + need, need, x -> x.beliefs(0, 0));
                e.asked(() -> told(needing(need), 8, 0, -1), "any, at " + need, 100, x -> x.beliefs(0, 0));
            }
        });
        e.sentence("27: behind each HOUR further on: to the 40th number", () -> {
            e.asked(() -> fortyYards(6), "beliefs", 1, x -> x.beliefs(0, 0));
            e.asked(() -> fortyYards(5), "beliefs", 0, x -> x.beliefs(0, 0));
            e.asked(() -> fortyYards(-1), "beliefs", 1, x -> x.beliefs(0, 0));
        });
        e.sentence("28: The least of them", () -> {
            for (int need : new int[] {0, 1, 2, 98, 99}) {
                e.asked(() -> told(needing(need), 8, 0, 1), "on, at " + need, need, x -> x.least(0, 0));
            }
            e.asked(() -> told(needing(99), 8, 0, 0), "short", 0, x -> x.least(0, 0));
            e.asked(() -> fortyYards(6), "by 40 numbers", 0, x -> x.least(0, 0));
        });
        e.sentence("28: The least of them: (-1: any)", () -> {
            e.asked(() -> told(needing(50), 8, -1, 1), "any, then on", 50, x -> x.least(0, 0));
            e.asked(() -> told(needing(50), 8, 0, 255), "on or short", 0, x -> x.least(0, 0));
            e.refused(() -> told(needing(50), 8, 0, -2), "-2", Edges.NONE, x -> x.least(0, 0));
        });
        e.sentence("28: NONE", () -> {
            e.refused(() -> told(needing(100), 8, 0, 1), "on, at 100", Edges.NONE, x -> x.least(0, 0));
            e.refused(() -> told(needing(0), 8, 0, 0), "short, at 0", Edges.NONE, x -> x.least(0, 0));
            e.refused(() -> fortyYards(5), "by 40 numbers", Edges.NONE, x -> x.least(0, 0));
            e.refused(() -> told(open(7), 8, 17), "no yard", Edges.NONE, x -> x.least(0, 0));
        });
    }

    // ---- 29 to 31

    private static FaithRails bringing(int need, int... beliefs) {
        FaithRails x = new FaithRails();
        for (int belief : beliefs) {
            Edges.add(x, Edges.RIDER, Edges.ABOARD, belief);
        }
        Edges.needs(x, 0, 15, need);
        return x;
    }

    private static void worth() {
        e.sentence("29: NEED of all STRETCHES that are THERE, together: none, all", () -> {
            e.asked(Edges::anew, "worth()", 0, x -> x.worth());
            e.asked(() -> bringing(99, 99), "worth() of each at its NEED", 16 * 99, x -> x.worth());
            e.asked(() -> bringing(99, 98), "worth() of each below its NEED", 0, x -> x.worth());
            e.asked(() -> bringing(0), "worth() of needs of 0", 0, x -> x.worth());
        });
        e.sentence("29: NEED of all: the first and the last", () -> {
            FaithRails x = bringing(999, 99);
            x.need(0, 99);
            e.due("the first", x.worth(), 99);
            x.need(15, 98);
            e.due("and the last", x.worth(), 197);
        });
        e.sentence("29: NEED of all: the most", () -> e.asked(() -> {
            FaithRails x = new FaithRails();
            for (int i = 0; i < 8; i++) {
                Edges.add(x, Edges.SELLER, Edges.ABOARD, 99);
            }
            Edges.needs(x, 0, 15, 999);
            return x;
        }, "worth()", 15984, x -> x.worth()));
    }

    private static void hangs() {
        e.sentence("30: one (of those that there are)", () -> people("hangs(v)", (x, v) -> x.hangs(v)));
        e.sentence("30: How many STRETCHES that are THERE: none, all", () -> {
            e.asked(() -> bringing(99, 99), "hangs(0) at the NEED", 16, x -> x.hangs(0));
            e.asked(() -> bringing(99, 98), "hangs(0) below the NEED", 0, x -> x.hangs(0));
            e.asked(() -> bringing(0, 98), "hangs(0) at a NEED of 0", 0, x -> x.hangs(0));
        });
        e.sentence("30: wouldn't be without what one brings", () -> {
            e.asked(() -> bringing(60, 50, 60), "hangs(0): 60 are left of 60", 0, x -> x.hangs(0));
            e.asked(() -> bringing(60, 50, 59), "hangs(0): 59 are left of 60", 16, x -> x.hangs(0));
            e.asked(() -> bringing(50, 0, 50), "hangs(0): nothing is brought", 0, x -> x.hangs(0));
        });
        e.sentence("30: (what others bring as it is): a seller keeps what it has by company", () -> {
            FaithRails x = bringing(55, 0);
            Edges.add(x, Edges.SELLER, Edges.ABOARD, 30);
            e.due("hangs(0)", x.hangs(0), 0);
            e.due("hangs(1)", x.hangs(1), 16);
        });
        e.sentence("30: what one brings: less the farther it waits, and less than nothing ABOARD", () -> {
            FaithRails x = bringing(10);
            Edges.add(x, Edges.RIDER, 5, 20);
            e.due("20 of yard 5 at a NEED of 10", x.hangs(0), 4);
            FaithRails y = bringing(10, 40);
            Edges.add(y, Edges.SCEPTIC, Edges.ABOARD, 0);
            e.due("the sceptic aboard", y.hangs(1), 0);
        });
    }

    private static void run() {
        e.sentence("31: The set of fewest PEOPLE: nobody, all", () -> {
            e.asked(Edges::anew, "run()", 0, x -> x.run());
            e.asked(() -> bringing(51, 50), "run() with no rails", 0, x -> x.run());
            e.asked(() -> bringing(9, 9, 9, 9, 9, 9, 9, 9, 9), "run() of eight", 255, x -> x.run());
        });
        e.sentence("31: and have a NEED above 0", () -> {
            e.asked(() -> bringing(0, 50), "run() of needs of 0", 0, x -> x.run());
            e.asked(() -> bringing(1, 50), "run() of needs of 1", 1, x -> x.run());
        });
        e.sentence("31: none of the STRETCHES that are THERE now would be: the last one, too", () -> {
            FaithRails x = bringing(0, 50);
            Edges.add(x, Edges.RIDER, 16, 10);
            x.need(15, 5);
            e.due("both bring as much as is needed", x.run(), 0b11);
            x.need(15, 11);
            e.due("the second is not enough", x.run(), 0b01);
        });
        e.sentence("31: none of the STRETCHES: each of them alone", () -> {
            for (int k = 0; k <= 15; k++) {
                FaithRails x = bringing(999, 20, 40);
                x.need(k, 30);
                e.due("run() of " + k + " alone", x.run(), 0b10);
            }
        });
        e.sentence("31: that are THERE now: without one there may be more", () -> {
            // 60 less 20 are 40; without the sceptic 60 would be enough for 50, which isn't there now.
            FaithRails x = bringing(50, 60);
            Edges.add(x, Edges.SCEPTIC, Edges.ABOARD, 0);
            e.due("run()", x.run(), 0);
            x.need(3, 40);
            e.due("run() of one that is there", x.run(), 0b01);
        });
        e.sentence("31: wouldn't be: NEED less 1 is left", () -> {
            e.asked(() -> bringing(50, 1, 49), "run() of 50", 0b01, x -> x.run());
            e.asked(() -> bringing(50, 1, 50), "run() of 51", 0b10, x -> x.run());
        });
        e.sentence("31: of several the least", () -> {
            e.asked(() -> bringing(50, 20, 20, 20), "run() of three alike", 0b001, x -> x.run());
            e.asked(() -> bringing(30, 20, 20, 20), "run() of any two", 0b011, x -> x.run());
            e.asked(() -> bringing(41, 20, 20, 40), "run(): one alone before the least two", 0b100, x -> x.run());
        });
        e.sentence("31: (what others bring as it is)", () -> {
            FaithRails x = bringing(35, 0);
            Edges.add(x, Edges.SELLER, Edges.ABOARD, 10);
            e.due("without the rider the seller's 35 are as they are", x.run(), 0b10);
        });
    }

    public static void main(String[] args) {
        kindFor();
        with();
        fewest();
        farthest();
        without();
        persuade();
        bears();
        seat();
        kinds();
        beliefs();
        worth();
        hangs();
        run();
        e.end();
    }
}
