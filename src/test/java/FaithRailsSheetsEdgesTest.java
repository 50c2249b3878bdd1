/** The edges of SPOTS, SHEETS and images (promises 38 to 49, and what the Terms tell of them). A test a sentence. */
public final class FaithRailsSheetsEdgesTest {
    private static final Edges e = new Edges();

    private static FaithRails one(int kind) {
        FaithRails x = new FaithRails();
        Edges.add(x, kind, Edges.ABOARD, 50);
        x.hold(0, 0);
        return x;
    }

    /** A sheet 0; the needs tell its numbers, as far as they can be needs. */
    private static FaithRails loaded(int bits, int... numbers) {
        FaithRails x = new FaithRails();
        Edges.sheet(x, 0, bits, numbers);
        return x;
    }

    private static void needsAre(String what, FaithRails x, int... needs) {
        for (int k = 0; k < needs.length; k++) {
            e.due("number " + k + " of " + what, x.stretch(k, 0), needs[k]);
        }
    }

    /** Sheets 0 and 1 of as many bits, 2 of others, 3 missing. */
    private static FaithRails rows() {
        FaithRails x = new FaithRails();
        Edges.sheet(x, 0, 16, 1, 2, 3, 4, 5);
        Edges.sheet(x, 1, 16, 6, 7, 8);
        Edges.sheet(x, 2, 8, 9, 10, 11);
        return x;
    }

    // ---- 38, 39

    private static void hold() {
        e.sentence("38: A SPOT (0 to 9)", () -> {
            e.range(Edges::busy, "hold(v, 0)", 0, 9, (x, v) -> x.hold(v, 0));
            e.range(Edges::busy, "hold(v, -1)", 0, 9, (x, v) -> x.hold(v, -1));
        });
        e.sentence("38: holds one of PEOPLE, or nothing (-1)", () -> {
            e.range(Edges::busy, "hold(9, v)", -1, 4, (x, v) -> x.hold(9, v));
            e.range(Edges::full, "hold(9, v)", -1, 7, (x, v) -> x.hold(9, v));
            e.range(Edges::anew, "hold(0, v)", -1, -1, (x, v) -> x.hold(0, v));
            e.refused(Edges::busy, "hold(10, 5)", Edges.BEYOND, x -> x.hold(10, 5));
        });
        e.sentence("38: 1", () -> {
            FaithRails x = new FaithRails();
            e.due("hold(0, -1) of nothing", x.hold(0, -1), 1);
            x.person(0, 0);
            e.due("hold(0, 0)", x.hold(0, 0), 1);
            e.due("hold(0, 0) again", x.hold(0, 0), 1);
            e.due("hold(0, -1)", x.hold(0, -1), 1);
            e.due("then nothing", x.as(0, 0), Edges.MISSING);
        });
        e.sentence("SPOTS 0 to 9 hold one of PEOPLE or nothing (at first)", () -> {
            for (int spot = 0; spot <= 9; spot++) {
                FaithRails x = one(Edges.RIDER);
                x.hold(0, -1);
                e.due("as", x.as(spot, 0), Edges.MISSING);
                x.hold(spot, 0);
                for (int other = 0; other <= 9; other++) {
                    e.due("as of " + other, x.as(other, 0), other == spot ? 0 : Edges.MISSING);
                }
            }
        });
    }

    private static void as() {
        e.sentence("39: BEYOND: a SPOT (0 to 9)", () ->
                e.range(Edges::full, "as(v, 0)", 0, 9, (x, v) -> x.as(v, 0)));
        e.sentence("39: as one of a kind (0 to 6)", () -> {
            for (int kind = 0; kind <= 6; kind++) {
                int asked = kind;
                e.asked(() -> one(asked), "as(0, " + kind + ")", 0, x -> x.as(0, asked));
                e.outside(() -> one(asked), "as(0, v)", 0, 6, (x, v) -> x.as(0, v));
            }
        });
        e.sentence("39: MISSING: it holds nothing", () -> {
            e.refused(Edges::anew, "as(v, 0)", Edges.MISSING, (x, v) -> x.as(v, 0), 0, 9);
            e.refused(Edges::anew, "as(0, v)", Edges.MISSING, (x, v) -> x.as(0, v), 0, 1, 2, 3, 4, 5, 6);
            e.refused(Edges::busy, "as(8, 0)", Edges.MISSING, x -> x.as(8, 0));
        });
        e.sentence("39: KIND: it isn't of that kind, nor of one under it", () -> {
            String[] kindsOver = {"0", "01", "02", "023", "0234", "05", "016"};
            for (int kind = 0; kind <= 6; kind++) {
                for (int top = 0; top <= 6; top++) {
                    int of = kind;
                    int asked = top;
                    if (kindsOver[kind].indexOf('0' + top) >= 0) {
                        e.asked(() -> one(of), "as(0, " + top + ") of " + kind, 0, x -> x.as(0, asked));
                    } else {
                        e.refused(() -> one(of), "as(0, " + top + ") of " + kind, Edges.KIND, x -> x.as(0, asked));
                    }
                }
            }
        });
        e.sentence("39: the number: the last", () -> {
            FaithRails x = Edges.full();
            x.hold(0, 7);
            e.due("as(0, 0)", x.as(0, 0), 7);
        });
        e.sentence("39: BEYOND. MISSING. KIND: in this order", () -> {
            e.refused(Edges::anew, "as(v, 0)", Edges.BEYOND, (x, v) -> x.as(v, 0), -1, 10);
            e.refused(Edges::anew, "as(0, v)", Edges.BEYOND, (x, v) -> x.as(0, v), -1, 7);
        });
    }

    // ---- 40, 41

    private static void sheet() {
        e.sentence("40: BEYOND: no such sheet (0 to 3)", () ->
                e.range(Edges::busy, "sheet(v, 8, 1)", 0, 3, (x, v) -> x.sheet(v, 8, 1)));
        e.sentence("40: of 8, 16 or 32 bits; BEYOND: other bits", () -> {
            e.refused(Edges::busy, "sheet(0, v, 1)", Edges.BEYOND, (x, v) -> x.sheet(0, v, 1),
                    -32, -16, -8, -1, 1, 7, 9, 15, 17, 24, 31, 33, 64, Edges.MIN, Edges.MAX);
            for (int bits : new int[] {8, 16, 32}) {
                e.due("sheet(3, " + bits + ", 40)", Edges.busy().sheet(3, bits, 40), 40);
            }
        });
        e.sentence("40: SIZE: n is below 0 (also with bits 0)", () -> {
            for (int bits : new int[] {0, 8, 16, 32}) {
                e.refused(Edges::busy, "sheet(0, " + bits + ", v)", Edges.SIZE, (x, v) -> x.sheet(0, bits, v),
                        -1, -40, Edges.MIN);
            }
        });
        e.sentence("40: BEYOND: n is above 40 (also with bits 0)", () -> {
            for (int bits : new int[] {0, 8, 16, 32}) {
                e.refused(Edges::busy, "sheet(0, " + bits + ", v)", Edges.BEYOND, (x, v) -> x.sheet(0, bits, v),
                        41, 256, Edges.MAX);
            }
        });
        e.sentence("40: A sheet has n numbers (0 to 40), all 0: n", () -> {
            for (int n = 0; n <= 40; n++) {
                FaithRails x = Edges.full();
                e.due("sheet(1, 16, " + n + ")", x.sheet(1, 16, n), n);
                e.due("load(1)", x.load(1), Math.min(n, 16));
                for (int k = 0; k < Math.min(n, 16); k++) {
                    e.due("number " + k, x.stretch(k, 0), 0);
                }
                e.due("the last", x.write(1, n - 1, 0), n == 0 ? Edges.BEYOND : 1);
                e.due("none behind it", x.write(1, n, 0), Edges.BEYOND);
            }
        });
        e.sentence("40: all 0: also the last of 40, where other numbers were", () -> {
            FaithRails x = Edges.full();
            x.sheet(1, 16, 0);
            x.sheet(1, 16, 40);
            x.copy(1, 24, 1, 0, 16);
            e.due("load(1)", x.load(1), 16);
            needsAre("the sheet", x, 0, 0, 0, 0, 0, 0, 0, 0, 0, 0, 0, 0, 0, 0, 0, 0);
        });
        e.sentence("40: bits 0: it is MISSING: (0 if it is MISSING)", () -> {
            for (int n = 0; n <= 40; n++) {
                FaithRails x = Edges.busy();
                e.due("sheet(0, 0, " + n + ")", x.sheet(0, 0, n), 0);
                e.due("load(0)", x.load(0), Edges.MISSING);
            }
            e.asked(Edges::anew, "sheet(3, 0, 40)", 0, x -> x.sheet(3, 0, 40));
        });
        e.sentence("40: BEYOND, SIZE, BEYOND: in this order", () -> {
            e.refused(Edges::busy, "sheet(v, 8, -1)", Edges.BEYOND, (x, v) -> x.sheet(v, 8, -1), -1, 4);
            e.refused(Edges::busy, "sheet(0, v, -1)", Edges.BEYOND, (x, v) -> x.sheet(0, v, -1), -1, 7, 33);
        });
    }

    private static void write() {
        e.sentence("41: BEYOND: no such sheet", () ->
                e.outside(Edges::busy, "write(v, 0, 0)", 0, 3, (x, v) -> x.write(v, 0, 0)));
        e.sentence("41: MISSING", () -> {
            e.refused(Edges::anew, "write(v, 0, 0)", Edges.MISSING, (x, v) -> x.write(v, 0, 0), 0, 1, 2, 3);
            e.refused(() -> {
                FaithRails x = Edges.busy();
                x.sheet(0, 0, 3);
                return x;
            }, "write(0, 0, 0)", Edges.MISSING, x -> x.write(0, 0, 0));
        });
        e.sentence("41: BEYOND: no such number", () -> {
            e.range(Edges::busy, "write(0, v, 1)", 0, 2, (x, v) -> x.write(0, v, 1));
            e.range(Edges::full, "write(1, v, 1)", 0, 39, (x, v) -> x.write(1, v, 1));
            e.refused(() -> loaded(32), "write(0, v, 1)", Edges.BEYOND, (x, v) -> x.write(0, v, 1), -1, 0, 1);
        });
        e.sentence("41: Number i becomes v: 1", () -> {
            FaithRails x = loaded(32, 5, 6, 7);
            e.due("write(0, 2, 999)", x.write(0, 2, 999), 1);
            e.due("write(0, 0, 0)", x.write(0, 0, 0), 1);
            e.due("load(0)", x.load(0), 3);
            needsAre("the sheet", x, 0, 6, 999);
        });
        e.sentence("41: BEYOND. MISSING. BEYOND: in this order", () -> {
            e.refused(Edges::anew, "write(v, -1, 0)", Edges.BEYOND, (x, v) -> x.write(v, -1, 0), -1, 4);
            e.refused(Edges::anew, "write(0, v, 0)", Edges.MISSING, (x, v) -> x.write(0, v, 0),
                    -1, 40, Edges.MIN, Edges.MAX);
        });
        lowestBits();
    }

    /** What is left of a number shows as a need, if it is 0 to 999; else the sheet ends for load(). */
    private static void leaves(int bits, int v, int left) {
        FaithRails x = loaded(bits, v);
        boolean isNeed = left >= 0 && left <= 999;
        e.due("load(0) of " + v + " of " + bits + " bits", x.load(0), isNeed ? 1 : 0);
        e.due("what is left of it", x.stretch(0, 0), isNeed ? left : 50);
    }

    /** A number of -1 is any yard for kinds(); the train isn't at the yard that any other number would tell. */
    private static void isMinusOne(int bits, int v, boolean is) {
        FaithRails x = loaded(bits, v);
        x.person(Edges.RIDER, 0);
        x.set(Edges.TRAIN, 16);
        e.due("kinds(0, 0) by " + v + " of " + bits + " bits", x.kinds(0, 0), is ? 127 : 0);
    }

    private static void lowestBits() {
        e.sentence("41: (its lowest bits): of 8 bits, told with their sign", () -> {
            int[] v = {0, 127, 128, 255, 256, 383, 384, -128, -129, -256, -257, Edges.MAX, Edges.MIN};
            int[] left = {0, 127, -128, -1, 0, 127, -128, -128, 127, 0, -1, -1, 0};
            for (int i = 0; i < v.length; i++) {
                leaves(8, v[i], left[i]);
                isMinusOne(8, v[i], left[i] == -1);
            }
        });
        e.sentence("41: (its lowest bits): of 16 bits, told with their sign", () -> {
            int[] v = {0, 999, 1000, 32768, 65535, 65536, 66535, 66536, -32768, -64537, -65536, -65537, Edges.MAX,
                Edges.MIN};
            int[] left = {0, 999, 1000, -32768, -1, 0, 999, 1000, -32768, 999, 0, -1, -1, 0};
            for (int i = 0; i < v.length; i++) {
                leaves(16, v[i], left[i]);
                isMinusOne(16, v[i], left[i] == -1);
            }
        });
        e.sentence("41: (its lowest bits): of 32 bits all", () -> {
            for (int v : new int[] {0, 255, 999, 1000, 65535, 65536, -65536, -1, Edges.MAX, Edges.MIN}) {
                leaves(32, v, v);
                isMinusOne(32, v, v == -1);
            }
        });
        e.sentence("SHEETS .. told with their sign: of 8 bits 255 is -1", () -> isMinusOne(8, 255, true));
        e.sentence("SHEETS 0 to 3: .. or MISSING (at first)", () ->
                e.refused(Edges::anew, "load(v)", Edges.MISSING, (x, v) -> x.load(v), 0, 1, 2, 3));
    }

    // ---- 42

    private static void copy() {
        e.sentence("42: BEYOND: no such sheet (either)", () -> {
            int[] none = {-1, 4, Edges.MIN, Edges.MAX};
            e.refused(() -> rows(), "copy(v, 0, 1, 0, 1)", Edges.BEYOND, (x, v) -> x.copy(v, 0, 1, 0, 1), none);
            e.refused(() -> rows(), "copy(0, 0, v, 0, 1)", Edges.BEYOND, (x, v) -> x.copy(0, 0, v, 0, 1), none);
        });
        e.sentence("42: MISSING: one is", () -> {
            e.refused(() -> rows(), "copy(3, 0, 1, 0, 1)", Edges.MISSING, x -> x.copy(3, 0, 1, 0, 1));
            e.refused(() -> rows(), "copy(0, 0, 3, 0, 1)", Edges.MISSING, x -> x.copy(0, 0, 3, 0, 1));
            e.refused(() -> rows(), "copy(3, 0, 3, 0, 0)", Edges.MISSING, x -> x.copy(3, 0, 3, 0, 0));
        });
        e.sentence("42: KIND: they are not of as many bits", () -> {
            e.refused(() -> rows(), "copy(0, 0, 2, 0, 1)", Edges.KIND, x -> x.copy(0, 0, 2, 0, 1));
            e.refused(() -> rows(), "copy(2, 0, 1, 0, 0)", Edges.KIND, x -> x.copy(2, 0, 1, 0, 0));
            e.refused(Edges::busy, "copy(1, 0, 2, 0, 1)", Edges.KIND, x -> x.copy(1, 0, 2, 0, 1));
        });
        e.sentence("42: BEYOND: one has not so many", () -> {
            e.range(() -> rows(), "copy(0, v, 1, 0, 3)", 0, 2, (x, v) -> x.copy(0, v, 1, 0, 3));
            e.range(() -> rows(), "copy(0, 0, 1, v, 2)", 0, 1, (x, v) -> x.copy(0, 0, 1, v, 2));
            e.range(() -> rows(), "copy(0, 0, 1, 0, v)", 0, 3, (x, v) -> x.copy(0, 0, 1, 0, v));
            e.range(() -> rows(), "copy(1, 0, 0, 0, v)", 0, 3, (x, v) -> x.copy(1, 0, 0, 0, v));
            e.range(() -> rows(), "copy(1, 3, 0, v, 0)", 0, 5, (x, v) -> x.copy(1, 3, 0, v, 0));
            e.range(() -> rows(), "copy(0, v, 1, 3, 0)", 0, 5, (x, v) -> x.copy(0, v, 1, 3, 0));
            e.range(Edges::full, "copy(1, 0, 1, 0, v)", 0, 40, (x, v) -> x.copy(1, 0, 1, 0, v));
        });
        e.sentence("42: or from, to or n is below 0", () -> {
            for (int v : new int[] {-1, -5, Edges.MIN}) {
                e.refused(() -> rows(), "copy(0, " + v + ", 1, 0, 1)", Edges.BEYOND, x -> x.copy(0, v, 1, 0, 1));
                e.refused(() -> rows(), "copy(0, 0, 1, " + v + ", 1)", Edges.BEYOND, x -> x.copy(0, 0, 1, v, 1));
                e.refused(() -> rows(), "copy(0, 0, 1, 0, " + v + ")", Edges.BEYOND, x -> x.copy(0, 0, 1, 0, v));
                e.refused(() -> rows(), "copy(0, " + v + ", 1, 0, 0)", Edges.BEYOND, x -> x.copy(0, v, 1, 0, 0));
                e.refused(() -> rows(), "copy(0, 0, 1, " + v + ", 0)", Edges.BEYOND, x -> x.copy(0, 0, 1, v, 0));
                e.refused(() -> rows(), "copy(0, 2, 1, 2, " + v + ")", Edges.BEYOND, x -> x.copy(0, 2, 1, 2, v));
            }
            e.refused(() -> rows(), "copy of sums over an int", Edges.BEYOND,
                    x -> x.copy(0, Edges.MAX, 1, Edges.MAX, Edges.MAX));
            e.refused(() -> rows(), "copy of a sum of 0", Edges.BEYOND, x -> x.copy(0, -3, 1, 0, 3));
        });
        copied();
    }

    private static void copied() {
        e.sentence("42: n numbers of a sheet from one on come to another one from one on: n", () -> {
            FaithRails x = rows();
            e.due("copy(0, 3, 1, 1, 2)", x.copy(0, 3, 1, 1, 2), 2);
            x.load(1);
            needsAre("the other", x, 6, 4, 5);
            x.load(0);
            needsAre("the one", x, 1, 2, 3, 4, 5);
            e.due("copy(0, 0, 1, 0, 3)", x.copy(0, 0, 1, 0, 3), 3);
            x.load(1);
            needsAre("the other", x, 1, 2, 3);
        });
        e.sentence("42: n numbers: none", () -> {
            e.asked(() -> rows(), "copy(0, 0, 1, 0, 0)", 0, x -> x.copy(0, 0, 1, 0, 0));
            e.asked(() -> rows(), "copy(0, 5, 1, 3, 0)", 0, x -> x.copy(0, 5, 1, 3, 0));
        });
        e.sentence("42: (as they all were): on the same sheet", () -> {
            FaithRails x = rows();
            e.due("copy(0, 0, 0, 1, 4)", x.copy(0, 0, 0, 1, 4), 4);
            x.load(0);
            needsAre("one on", x, 1, 1, 2, 3, 4);
            FaithRails y = rows();
            e.due("copy(0, 1, 0, 0, 4)", y.copy(0, 1, 0, 0, 4), 4);
            y.load(0);
            needsAre("one back", y, 2, 3, 4, 5, 5);
            e.asked(() -> rows(), "copy(0, 0, 0, 0, 5)", 5, z -> z.copy(0, 0, 0, 0, 5));
        });
        e.sentence("42: BEYOND, MISSING, KIND, BEYOND: in this order", () -> {
            e.refused(() -> rows(), "copy(4, 0, 3, 0, 1)", Edges.BEYOND, x -> x.copy(4, 0, 3, 0, 1));
            e.refused(() -> rows(), "copy(3, 0, -1, 0, 1)", Edges.BEYOND, x -> x.copy(3, 0, -1, 0, 1));
            e.refused(() -> rows(), "copy(4, 0, 2, -1, 1)", Edges.BEYOND, x -> x.copy(4, 0, 2, -1, 1));
            e.refused(() -> rows(), "copy(3, -1, 0, 0, 99)", Edges.MISSING, x -> x.copy(3, -1, 0, 0, 99));
            e.refused(() -> rows(), "copy(2, 0, 3, 0, 99)", Edges.MISSING, x -> x.copy(2, 0, 3, 0, 99));
            e.refused(() -> rows(), "copy(0, -1, 2, 0, 1)", Edges.KIND, x -> x.copy(0, -1, 2, 0, 1));
            e.refused(() -> rows(), "copy(2, 0, 0, 0, 99)", Edges.KIND, x -> x.copy(2, 0, 0, 0, 99));
        });
    }

    // ---- 43, 44

    private static void load() {
        e.sentence("43: BEYOND: no such sheet", () -> e.outside(Edges::busy, "load(v)", 0, 3, (x, v) -> x.load(v)));
        e.sentence("43: MISSING", () -> {
            e.refused(Edges::busy, "load(3)", Edges.MISSING, x -> x.load(3));
            e.due("load(3)", rows().load(3), Edges.MISSING);
            e.due("load(2)", rows().load(2), 3);
        });
        e.sentence("43: It ends at the first that isn't 0 to 999", () -> {
            for (int end : new int[] {-1, 1000, Edges.MIN, Edges.MAX}) {
                for (int place = 0; place < 4; place++) {
                    int[] numbers = {0, 999, 0, 999, 7};
                    numbers[place] = end;
                    FaithRails x = loaded(32, numbers);
                    e.due("load(0) with " + end + " at " + place, x.load(0), place);
                    for (int k = 0; k < 5; k++) {
                        e.due("NEED of " + k, x.stretch(k, 0), k < place ? numbers[k] : 50);
                    }
                }
            }
        });
        e.sentence("43: or for which there is no STRETCH", () -> {
            for (int n = 15; n <= 17; n++) {
                int[] numbers = new int[n];
                for (int i = 0; i < n; i++) {
                    numbers[i] = 100 + i;
                }
                FaithRails x = loaded(16, numbers);
                e.due("load(0) of " + n, x.load(0), Math.min(n, 16));
                e.due("NEED of 14", x.stretch(14, 0), 114);
                e.due("NEED of 15", x.stretch(15, 0), n > 15 ? 115 : 50);
            }
            FaithRails x = Edges.full();
            e.due("load(1) of 40", x.load(1), 16);
            e.due("NEED of 15", x.stretch(15, 0), 375);
        });
        e.sentence("43: how many came: none of an empty sheet", () ->
                e.asked(() -> loaded(8), "load(0)", 0, x -> x.load(0)));
    }

    private static void judge() {
        e.sentence("44: BEYOND: no such sheet", () -> e.outside(Edges::busy, "judge(v)", 0, 3, (x, v) -> x.judge(v)));
        e.sentence("44: MISSING", () -> {
            e.refused(Edges::busy, "judge(3)", Edges.MISSING, x -> x.judge(3));
            e.refused(Edges::anew, "judge(v)", Edges.MISSING, (x, v) -> x.judge(v), 0, 3);
        });
        e.sentence("44: THE TRAIN's YARDS now and behind each HOUR further on: 0 if so: to the 40th number", () ->
                e.asked(Edges::fortyYards, "judge(0)", 0, x -> x.judge(0)));
        e.sentence("44: else 1 and the place of the first that isn't so: each of the 40", () -> {
            for (int place = 0; place < 40; place++) {
                int wrong = place;
                e.asked(() -> wrongAt(wrong), "judge(0) with " + place + " wrong", 1 + place, x -> x.judge(0));
            }
            FaithRails x = wrongAt(7);
            x.write(0, 3, 9);
            x.write(0, 39, 9);
            e.due("judge(0) with three wrong", x.judge(0), 4);
        });
        e.sentence("44: 0 if so: of no numbers", () -> e.asked(() -> loaded(8), "judge(0)", 0, x -> x.judge(0)));
        e.sentence("44: numbers are YARDS: -1 is none, nor is one of lowest bits that are none", () -> {
            e.asked(() -> loaded(8, -1), "judge(0) of -1", 1, x -> x.judge(0));
            e.asked(() -> loaded(16, 256), "judge(0) of 256 of 16 bits", 1, x -> x.judge(0));
            e.asked(() -> loaded(8, 256), "judge(0) of 256 of 8 bits", 0, x -> x.judge(0));
        });
    }

    private static FaithRails wrongAt(int place) {
        FaithRails x = Edges.fortyYards();
        x.write(0, place, place < 39 ? 6 : 5);
        return x;
    }

    // ---- 45 to 49

    private static void images() {
        e.sentence("45: All but THE TAPE and SHEETS is kept: 1", () -> {
            FaithRails kept = Edges.busy();
            e.due("image()", kept.image(), 1);
            changeAll(kept);
            kept.undo();
            FaithRails same = Edges.busy();
            same.image();
            e.same("image(), changes and undo()", kept, same);
        });
        e.sentence("45: but THE TAPE and SHEETS", () -> {
            FaithRails x = rows();
            x.image();
            x.write(0, 0, 17);
            x.sheet(1, 0, 0);
            Edges.fed(x, "day");
            x.undo();
            e.due("bytes", x.count(5), 3);
            e.due("load(0)", x.load(0), 5);
            e.due("number 0", x.stretch(0, 0), 17);
            e.due("load(1)", x.load(1), Edges.MISSING);
        });
        e.sentence("45: All of a new object is kept, too", () -> {
            FaithRails x = new FaithRails();
            x.image();
            changeAll(x);
            e.due("undo()", x.undo(), 0);
            FaithRails y = new FaithRails();
            y.image();
            e.same("undo() to what was at first", x, y);
        });
        e.sentence("46: It becomes what was kept latest", () -> {
            FaithRails x = new FaithRails();
            x.image();
            x.go(1);
            x.image();
            x.go(60);
            e.due("undo()", x.undo(), 1);
        });
        e.sentence("46: (which stays): HOUR", () -> {
            FaithRails x = new FaithRails();
            x.go(60);
            x.image();
            for (int i = 0; i < 3; i++) {
                x.go(7);
                e.due("undo()", x.undo(), 60);
                e.due("HOUR", x.now(0), 60);
            }
            x.undo();
            e.due("undo() at once again", x.undo(), 60);
        });
        e.sentence("46: NONE: nothing is kept", () -> {
            e.refused(Edges::anew, "undo()", Edges.NONE, x -> x.undo());
            e.refused(() -> {
                FaithRails x = Edges.busy();
                x.tear();
                return x;
            }, "undo() behind tear()", Edges.NONE, x -> x.undo());
        });
        e.sentence("47: Nothing is kept: 1 if something was, else 0", () -> {
            FaithRails x = new FaithRails();
            e.due("tear()", x.tear(), 0);
            x.image();
            x.image();
            e.due("tear() of two", x.tear(), 1);
            e.due("tear() again", x.tear(), 0);
            x.image();
            x.undo();
            e.due("tear() behind undo()", x.tear(), 1);
            e.due("findings", x.status(-1), 0);
        });
    }

    /** Each part that an image keeps becomes another; neither the tape nor the sheets do. */
    private static void changeAll(FaithRails x) {
        for (int k = 0; k <= 15; k++) {
            x.need(k, 900 + k);
        }
        x.go(1);
        x.person(Edges.PROPHET, 11);
        x.change(0, 0, Edges.SCEPTIC);
        x.change(0, 1, 13);
        x.change(0, 2, 1);
        x.set(Edges.TRAIN, 12);
        x.set(Edges.NIGHT, 1 - x.now(5));
        x.set(Edges.GAIN, 19);
        x.set(Edges.LOSS, 18);
        x.seed(-5);
        for (int spot = 0; spot <= 9; spot++) {
            x.hold(spot, x.as(spot, 0) == 0 ? -1 : 0);
        }
    }

    private static void count() {
        e.sentence("48: BEYOND: another what (than 0 to 7)", () -> {
            e.range(Edges::busy, "count(v)", 0, 7, (x, v) -> x.count(v));
            e.range(Edges::anew, "count(v)", 0, 7, (x, v) -> x.count(v));
            e.range(Edges::full, "count(v)", 0, 7, (x, v) -> x.count(v));
        });
        e.sentence("48: 0 HOUR, 1 PEOPLE, .. 7 SPOTS that hold something: of nothing", () -> {
            for (int what = 0; what <= 7; what++) {
                int asked = what;
                e.asked(Edges::anew, "count(" + what + ")", what == 6 ? 1 : 0, x -> x.count(asked));
            }
        });
        e.sentence("48: 0 HOUR, 1 PEOPLE, .. 7 SPOTS that hold something: the most", () -> {
            Edges.Scene most = () -> {
                FaithRails x = Edges.full();
                for (int p = 0; p <= 7; p++) {
                    x.change(p, 1, Edges.ABOARD);
                    x.change(p, 2, 99);
                }
                Edges.needs(x, 0, 15, 0);
                x.seed(Edges.MAX);
                return x;
            };
            long[] due = {2, 8, 8, 16, 792, 120, Edges.MAX, 10};
            for (int what = 0; what <= 7; what++) {
                int asked = what;
                e.asked(most, "count(" + what + ")", due[what], x -> x.count(asked));
            }
        });
    }

    private static void status() {
        e.sentence("49: which -1: all, 0 to 6", () -> {
            e.range(Edges::busy, "status(v)", -1, 6, (x, v) -> x.status(v));
            e.range(Edges::anew, "status(v)", -1, 6, (x, v) -> x.status(v));
        });
        e.sentence("49: How many acts answered a finding ever: each of the seven, and all", () -> {
            FaithRails x = Edges.full();
            x.hold(9, 0);
            int all = 0;
            for (int times = 1; times <= 3; times++) {
                x.need(16, 0);
                x.feed(0, 1);
                x.as(9, Edges.SCEPTIC);
                x.when(16);
                x.leave(7);
                x.load(0);
                x.sheet(0, 8, -1);
                all += 7;
                for (int which = 0; which <= 6; which++) {
                    e.due("status(" + which + ")", x.status(which), times);
                }
                e.due("status(-1)", x.status(-1), all);
            }
        });
        e.sentence("49: (undo() takes none back)", () -> {
            FaithRails x = new FaithRails();
            x.image();
            x.need(16, 0);
            x.load(0);
            x.undo();
            e.due("status(-1)", x.status(-1), 2);
            e.due("status(0)", x.status(0), 1);
            e.due("status(5)", x.status(5), 1);
        });
        e.sentence("49: BEYOND (counted from then on): another one", () -> {
            for (int which : new int[] {-2, 7, Edges.MIN, Edges.MAX}) {
                FaithRails x = new FaithRails();
                for (int times = 1; times <= 3; times++) {
                    e.due("status(" + which + ")", x.status(which), Edges.BEYOND);
                    e.due("status(0)", x.status(0), times);
                    e.due("status(-1)", x.status(-1), times);
                }
            }
        });
        e.sentence("49: an answer below 0 that is no finding isn't counted", () -> {
            FaithRails x = Edges.full();
            x.wipe();
            e.due("text()", x.text(), -1);
            e.due("status(-1)", x.status(-1), 0);
        });
    }

    public static void main(String[] args) {
        hold();
        as();
        sheet();
        write();
        copy();
        load();
        judge();
        images();
        count();
        status();
        e.end();
    }
}
