/** The edges of gold, THE TAPE and TEXTS (promises 32 to 37, and what the Terms tell of a TEXT). A test a sentence. */
public final class FaithRailsTextsEdgesTest {
    private static final Edges e = new Edges();

    private static FaithRails seeded(int z, int need) {
        FaithRails x = new FaithRails();
        Edges.needs(x, 0, 15, need);
        x.seed(z);
        return x;
    }

    private static FaithRails openTo(int there) {
        FaithRails x = new FaithRails();
        Edges.needs(x, 0, there - 1, 0);
        return x;
    }

    private static Edges.Scene taped(int bytes) {
        return () -> {
            FaithRails x = new FaithRails();
            Edges.fed(x, " ".repeat(bytes));
            return x;
        };
    }

    private static long power(long base, int n) {
        long power = 1;
        for (int i = 0; i < n; i++) {
            power *= base;
        }
        return power;
    }

    // ---- 32 to 34

    private static void gold() {
        e.sentence("32: n times (1 to 20)", () -> {
            e.range(Edges::busy, "gold(v)", 1, 20, (x, v) -> x.gold(v));
            for (int n = 1; n <= 20; n++) {
                FaithRails x = seeded(77, 999);
                e.due("gold(" + n + ")", x.gold(n), 0);
                e.due("HOUR", x.now(0), n);
                e.due("FALLS", x.now(4), n);
                int z = 77;
                int[] needs = new int[16];
                for (int i = 0; i < n; i++) {
                    z = z * 1103515245 + 12345;
                    needs[(z >>> 8) % 16] += 10;
                }
                e.due("z", x.count(6), z);
                for (int k = 0; k <= 15; k++) {
                    e.due("NEED of " + k + " behind " + n, x.stretch(k, 0), 999 - needs[k]);
                }
            }
        });
        e.sentence("32: the STRETCH that is its rest by 16: each of 0 to 15", () -> {
            // A z with which the next draw is k * 256 by bits: the draw is k then.
            for (int k = 0; k <= 15; k++) {
                int z = -1;
                for (int seed = 0; seed < 4096 && z < 0; seed++) {
                    z = (seed * 1103515245 + 12345 >>> 8) % 16 == k ? seed : -1;
                }
                FaithRails x = seeded(z, 500);
                x.gold(1);
                for (int other = 0; other <= 15; other++) {
                    e.due("NEED of " + other, x.stretch(other, 0), other == k ? 490 : 500);
                }
            }
        });
        e.sentence("32: is 10 less (0 at least)", () -> {
            int[] before = {999, 11, 10, 9, 1, 0};
            int[] then = {989, 1, 0, 0, 0, 0};
            for (int i = 0; i < before.length; i++) {
                FaithRails x = seeded(1, before[i]);
                x.gold(1);
                e.due("NEED of " + before[i], x.stretch(14, 0), then[i]);
            }
        });
        e.sentence("32: then an HOUR: the YARD of THE TRAIN then", () -> {
            FaithRails x = seeded(1, 10);
            x.set(Edges.TRAIN, 14);
            e.due("gold(1)", x.gold(1), 15);
            FaithRails y = seeded(1, 11);
            y.set(Edges.TRAIN, 14);
            e.due("gold(1) at one more", y.gold(1), 14);
            FaithRails z = seeded(1, 0);
            z.set(Edges.TRAIN, 16);
            e.due("gold(20) at yard 16", z.gold(20), 16);
        });
        lateGold();
    }

    private static void lateGold() {
        e.sentence("32: STATE: HOUR would be above 99999", () -> {
            Edges.Scene late = () -> Edges.atHour(99980);
            FaithRails x = late.made();
            x.gold(19);
            e.due("HOUR", x.now(0), 99999);
            e.refused(late, "gold(20)", Edges.STATE, y -> y.gold(20));
            e.refused(() -> Edges.atHour(99999), "gold(v)", Edges.STATE, (y, v) -> y.gold(v), 1, 20);
        });
        e.sentence("32: BEYOND. STATE.: BEYOND is asked first", () ->
                e.outside(() -> Edges.atHour(99999), "gold(v)", 1, 20, (x, v) -> x.gold(v)));
    }

    private static void odds() {
        e.sentence("33: n (0 to 14) such draws", () -> {
            e.range(Edges::busy, "odds(v, 0)", 0, 14, (x, v) -> x.odds(v, 0));
            e.range(Edges::busy, "odds(v, 1)", 0, 14, (x, v) -> x.odds(v, 1));
        });
        e.sentence("33: above (what 0), below the line (1)", () -> {
            e.range(Edges::busy, "odds(14, v)", 0, 1, (x, v) -> x.odds(14, v));
            e.refused(Edges::busy, "odds(15, 2)", Edges.BEYOND, x -> x.odds(15, 2));
        });
        e.sentence("33: a fraction in lowest terms: of none to all sixteen", () -> {
            int[] above = {0, 1, 1, 3, 1, 5, 3, 7, 1, 9, 5, 11, 3, 13, 7, 15, 1};
            int[] below = {1, 16, 8, 16, 4, 16, 8, 16, 2, 16, 8, 16, 4, 16, 8, 16, 1};
            for (int there = 0; there <= 16; there++) {
                for (int n : new int[] {0, 1, 2, 13, 14}) {
                    int open = there;
                    e.asked(() -> openTo(open), "odds(" + n + ", 0) of " + there, power(above[there], n),
                            x -> x.odds(n, 0));
                    e.asked(() -> openTo(open), "odds(" + n + ", 1) of " + there, power(below[there], n),
                            x -> x.odds(n, 1));
                }
            }
        });
        e.sentence("33: long: the greatest", () -> {
            e.asked(() -> openTo(15), "odds(14, 0)", 29192926025390625L, x -> x.odds(14, 0));
            e.asked(() -> openTo(15), "odds(14, 1)", 72057594037927936L, x -> x.odds(14, 1));
        });
    }

    private static void seed() {
        e.sentence("34: z becomes v: what it was: any int", () -> {
            FaithRails x = new FaithRails();
            int[] seeds = {1, 0, -1, Edges.MIN, Edges.MAX, -1000001, -1000007, 12345};
            for (int i = 0; i + 1 < seeds.length; i++) {
                e.due("seed(" + seeds[i + 1] + ")", x.seed(seeds[i + 1]), seeds[i]);
                e.due("z", x.count(6), seeds[i + 1]);
            }
            e.due("findings", x.status(-1), 0);
        });
    }

    // ---- 35, 36

    private static void feed() {
        e.sentence("35: the n lowest bytes of a number (n 1 to 4)", () -> {
            e.range(Edges::busy, "feed(0, v)", 1, 4, (x, v) -> x.feed(0, v));
            // Of "xday" the three lowest are a text; with the fourth the fault is at 0.
            int xday = 'x' << 24 | 'd' << 16 | 'a' << 8 | 'y';
            int[] answers = {0, -1, -1, 1, -1};
            for (int n = 1; n <= 4; n++) {
                FaithRails x = new FaithRails();
                e.due("feed", x.feed(xday, n), n);
                e.due("text of " + n, x.text(), answers[n]);
            }
        });
        e.sentence("35: the highest of these first", () -> {
            FaithRails x = new FaithRails();
            x.feed('n' << 24 | 'i' << 16 | 'g' << 8 | 'h', 4);
            e.due("feed", x.feed('t' << 8 | ';', 2), 6);
            e.due("feed", x.feed('d' << 16 | 'a' << 8 | 'y', 3), 9);
            e.due("text", x.text(), 2);
        });
        e.sentence("35: bytes of any number: 255 four times", () -> {
            FaithRails x = new FaithRails();
            e.due("feed(-1, 4)", x.feed(-1, 4), 4);
            e.due("text", x.text(), -1);
            e.due("feed(min, 4)", x.feed(Edges.MIN, 4), 4);
            e.due("text", x.text(), -1);
            e.due("findings", x.status(-1), 0);
        });
        e.sentence("35: how many it has (at most 120). FULL", () -> {
            for (int n = 1; n <= 4; n++) {
                int fed = n;
                e.due("feed(0, " + n + ") to the end", taped(120 - n).made().feed(0, n), 120);
                for (int bytes = 121 - n; bytes <= 120; bytes++) {
                    e.refused(taped(bytes), "feed(0, " + n + ") behind " + bytes, Edges.FULL, x -> x.feed(0, fed));
                }
            }
            e.refused(Edges::full, "feed(v, 1)", Edges.FULL, (x, v) -> x.feed(v, 1), 0, 32, Edges.MIN, Edges.MAX);
        });
        e.sentence("35: BEYOND: n. FULL.: BEYOND is asked first", () ->
                e.outside(Edges::full, "feed(0, v)", 1, 4, (x, v) -> x.feed(0, v)));
    }

    private static void wipe() {
        e.sentence("36: THE TAPE is empty: how many it had", () -> {
            for (int bytes : new int[] {0, 1, 4, 119, 120}) {
                FaithRails x = taped(bytes).made();
                e.due("wipe()", x.wipe(), bytes);
                e.due("bytes", x.count(5), 0);
                e.due("wipe() again", x.wipe(), 0);
                e.due("findings", x.status(-1), 0);
            }
            e.asked(Edges::anew, "wipe()", 0, x -> x.wipe());
        });
        e.sentence("36: THE TAPE is empty: what it had is gone", () -> {
            FaithRails x = new FaithRails();
            Edges.fed(x, "night;gain 20");
            x.wipe();
            e.due("a text of its own", Edges.told(x, "day"), 1);
            e.due("GAIN", x.set(Edges.GAIN, 3), 3);
        });
    }

    // ---- 37: what is a text

    private static void tells(String text, int items) {
        FaithRails x = new FaithRails();
        e.due("\"" + text + "\"", Edges.told(x, text), items);
        e.due("findings behind \"" + text + "\"", x.status(-1), 0);
        e.due("bytes behind \"" + text + "\"", x.count(5), 0);
    }

    /** The text has its fault at a place: nothing changes but that the tape is empty. */
    private static void fault(String text, int place) {
        faultIn(Edges::anew, text, place);
    }

    private static void faultIn(Edges.Scene scene, String text, int place) {
        FaithRails told = scene.made();
        FaithRails spared = scene.made();
        told.wipe();
        spared.wipe();
        e.due("\"" + text + "\"", Edges.told(told, text), -1 - place);
        for (int which = -1; which <= 6; which++) {
            e.due("status(" + which + ")", told.status(which), spared.status(which));
        }
        e.same("\"" + text + "\"", told, spared);
    }

    private static void tokens() {
        e.sentence("TOKENS, each as long as can be: WORDS", () -> {
            fault("nightday", 0);
            fault("rider waitsbelieves 5", 6);
            fault("dayday", 0);
            tells("rider waits5believes6;need0 0", 2);
        });
        e.sentence("TOKENS, each as long as can be: NUMBERS", () -> {
            fault("need 01000", 5);
            fault("need 0 0999999", 7);
            fault("need 1 2 3", 9);
            tells("need 1 23", 1);
        });
        e.sentence("WORDS (letters a to z)", () -> {
            fault("day`", 3);
            fault("daya", 0);
            fault("dayz", 0);
            fault("day{", 3);
            fault("dayA", 3);
            fault("Day", 0);
            fault("day_", 3);
        });
        e.sentence("NUMBERS (digits, 999 at most)", () -> {
            tells("need 15 999", 1);
            fault("need 15 1000", 8);
            fault("need 15 9/", 9);
            fault("need 15 9:", 9);
            tells("need 15 0;need 15 9", 2);
            fault("need 15 -1", 8);
            fault("need 15 +1", 8);
            fault("need 15 4294967296", 8);
            fault("need 15 18446744073709551616", 8);
            tells("need 015 " + "0".repeat(100) + "999", 1);
        });
        e.sentence("SIGN ;", () -> {
            tells("day;night", 2);
            fault("day,night", 3);
            fault("day:night", 3);
            fault("day<night", 3);
        });
        e.sentence("blanks may stand between", () -> {
            tells("   rider   waits   16   believes   99   ;   need   0   0   ", 2);
            tells("rider waits16believes99;need0 0", 2);
            fault("day\t", 3);
            fault("day\n", 3);
            fault("day\u001f", 3);
            fault("day!", 3);
            fault("day\u00a0", 3);
            fault("day\u0000", 3);
        });
    }

    private static void grammar() {
        e.sentence("TEXT: ITEM { ; ITEM }: how many ITEMS", () -> {
            tells("day", 1);
            tells("day;day", 2);
            tells("day;".repeat(29) + "day", 30);
            fault("day;", 4);
            fault(";", 0);
            fault(";day", 0);
            fault("day;;day", 4);
            fault("day day", 4);
            fault("day;" + "day;".repeat(28) + "day;", 120);
        });
        e.sentence("ITEM: rider, doubter, prophet, banker, seller, child or sceptic: a new one", () -> {
            String[] words = {"rider", "doubter", "prophet", "banker", "seller", "child", "sceptic"};
            for (int kind = 0; kind < words.length; kind++) {
                FaithRails x = new FaithRails();
                e.due(words[kind], Edges.told(x, words[kind]), 1);
                e.due("PEOPLE", x.count(1), 1);
                e.due("KIND", x.of(0, 0), kind);
                e.due("WHERE", x.of(0, 1), -1);
                e.due("BELIEF", x.of(0, 2), 50);
                fault(words[kind] + "s", 0);
                fault(words[kind].substring(1), 0);
                fault(words[kind].substring(0, words[kind].length() - 1), 0);
            }
        });
        e.sentence("perhaps waits and a NUMBER (a YARD; ABOARD without)", () -> {
            for (int yard = 0; yard <= 16; yard++) {
                FaithRails x = new FaithRails();
                e.due("waits", Edges.told(x, "seller waits " + yard), 1);
                e.due("WHERE", x.of(0, 1), yard);
                e.due("BELIEF", x.of(0, 2), 50);
            }
            fault("seller waits 17", 13);
            fault("seller waits 999", 13);
            fault("seller waits", 12);
            fault("seller waits;", 12);
            fault("seller waits believes 5", 13);
            fault("seller 5", 7);
            fault("seller waits 1 waits 1", 15);
        });
        e.sentence("perhaps believes and a NUMBER (0 to 99)", () -> {
            for (int belief = 0; belief <= 99; belief++) {
                FaithRails x = new FaithRails();
                e.due("believes", Edges.told(x, "child believes " + belief), 1);
                e.due("BELIEF", x.of(0, 2), belief);
                e.due("WHERE", x.of(0, 1), -1);
            }
            fault("child believes 100", 15);
            fault("child believes 999", 15);
            fault("child believes", 14);
            fault("child believes;", 14);
            fault("child believes 5 believes 5", 17);
            fault("child believes 5 waits 5", 17);
            FaithRails x = new FaithRails();
            e.due("both", Edges.told(x, "child waits 0 believes 0"), 1);
            e.due("WHERE", x.of(0, 1), 0);
            e.due("BELIEF", x.of(0, 2), 0);
        });
        settings();
    }

    private static void settings() {
        e.sentence("need, two NUMBERS (a STRETCH, 0 to 999)", () -> {
            for (int k = 0; k <= 15; k++) {
                FaithRails x = new FaithRails();
                e.due("need", Edges.told(x, "need " + k + " 999"), 1);
                e.due("NEED", x.stretch(k, 0), 999);
                e.due("need", Edges.told(x, "need " + k + " 0"), 1);
                e.due("NEED", x.stretch(k, 0), 0);
            }
            fault("need 16 0", 5);
            fault("need 15 1000", 8);
            fault("need 16 1000", 5);
            fault("need", 4);
            fault("need 5", 6);
            fault("need 5;", 6);
            fault("need;5", 4);
        });
        e.sentence("train, a NUMBER (a YARD)", () -> {
            for (int yard = 0; yard <= 16; yard++) {
                FaithRails x = new FaithRails();
                e.due("train", Edges.told(x, "train " + yard), 1);
                e.due("the YARD of THE TRAIN", x.now(1), yard);
            }
            fault("train 17", 6);
            fault("train", 5);
            fault("train night", 6);
        });
        e.sentence("gain or loss, a NUMBER (0 to 20)", () -> {
            for (int v = 0; v <= 20; v++) {
                FaithRails x = new FaithRails();
                e.due("gain", Edges.told(x, "gain " + v + ";loss " + (20 - v)), 2);
                e.due("GAIN", x.set(Edges.GAIN, 0), v);
                e.due("LOSS", x.set(Edges.LOSS, 0), 20 - v);
            }
            fault("gain 21", 5);
            fault("loss 21", 5);
            fault("gain", 4);
            fault("loss", 4);
            fault("gain loss 5", 5);
        });
        e.sentence("night or day", () -> {
            FaithRails x = new FaithRails();
            e.due("night", Edges.told(x, "night"), 1);
            e.due("NIGHT", x.now(5), 1);
            e.due("night;day", Edges.told(x, "night;day"), 2);
            e.due("NIGHT", x.now(5), 0);
            fault("night 1", 6);
            fault("day 0", 4);
        });
    }

    // ---- 37: its fault

    private static void faults() {
        e.sentence("FAULT: the place (from 0) of the first byte of the first TOKEN that can't stand there", () -> {
            fault("need 0 0;need 16 1000;need 17 0", 14);
            fault("      gain     21", 15);
            fault(" ".repeat(119) + ";", 119);
            fault("day;".repeat(28) + "gain 21", 117);
        });
        e.sentence("(a NUMBER that isn't as told", () -> {
            fault("rider waits 17 believes 100", 12);
            fault("need 0 1000#", 7);
            fault("5", 0);
            fault("day;5", 4);
        });
        e.sentence("another WORD", () -> {
            fault("monk", 0);
            fault("a", 0);
            fault("waits 5", 0);
            fault("believes 5", 0);
            fault("rider believes waits", 15);
            fault("gain x", 5);
            fault("need 1 x", 7);
            fault("rider rider", 6);
            String[] nearly = {"xeed 0 0", "xrain 0", "xain 0", "xoss 0", "xight", "xay", "xider", "rider xaits 0",
                "rider xelieves 0", "neex 0 0", "traix 0", "gaix 0", "losx 0", "nighx", "dax", "rider waitx 0",
                "rider believex 0"};
            for (String text : nearly) {
                fault(text, text.startsWith("rider") ? 6 : 0);
            }
        });
        e.sentence("a byte that begins no TOKEN", () -> {
            fault("#", 0);
            fault("gain #", 5);
            fault("need 1#", 6);
            fault("rider#", 5);
            fault("day;#", 4);
            fault("\u00ff", 0);
            fault("day\u00bb", 3);
            fault("\u0080day", 0);
        });
        e.sentence("the WORD of a 9th of PEOPLE: its own)", () -> {
            fault("rider;".repeat(8) + "rider", 48);
            fault("rider;".repeat(8) + "child waits 17", 48);
            faultIn(Edges::full, "rider", 0);
            faultIn(Edges::full, "day;  rider waits 1", 6);
            faultIn(Edges::full, "gain 21;rider", 5);
            tells("rider;".repeat(7) + "child waits 16 believes 99", 8);
            FaithRails x = Edges.busy();
            x.wipe();
            e.due("the 8th", Edges.told(x, "rider;rider;rider"), 3);
            e.due("the 9th", Edges.told(x, "day;rider"), -5);
            e.due("PEOPLE", x.count(1), 8);
        });
        e.sentence("or how many bytes there are if it ends too early", () -> {
            fault("", 0);
            fault(" ", 1);
            fault(" ".repeat(120), 120);
            fault("need 0", 6);
            fault("need 0   ", 9);
            fault("day;  ", 6);
            fault("rider waits", 11);
            fault("rider believes ", 15);
            fault(" ".repeat(116) + "gain", 120);
        });
    }

    private static void text() {
        e.sentence("37: THE TAPE is a TEXT, and empty then", () -> {
            FaithRails x = Edges.full();
            e.due("text() of 120 bytes", x.text(), 1);
            e.due("bytes", x.count(5), 0);
            e.due("NEED of 15", x.stretch(15, 0), 999);
            e.due("text() again", x.text(), -1);
        });
        e.sentence("37: all that it tells is so, item by item", () -> {
            FaithRails x = new FaithRails();
            e.due("text", Edges.told(x, "need 3 5;need 3 6;gain 1;gain 20;train 16;train 2;night;day;child"), 9);
            e.due("NEED", x.stretch(3, 0), 6);
            e.due("GAIN", x.set(Edges.GAIN, 0), 20);
            e.due("THE TRAIN", x.now(1), 2);
            e.due("NIGHT", x.now(5), 0);
            e.due("KIND", x.of(0, 0), Edges.CHILD);
        });
        e.sentence("37: all that it tells is so: nothing else is", () -> {
            FaithRails told = Edges.busy();
            FaithRails set = Edges.busy();
            told.wipe();
            set.wipe();
            e.due("text", Edges.told(told, "need 15 0;sceptic waits 16 believes 0"), 2);
            set.need(15, 0);
            Edges.add(set, Edges.SCEPTIC, 16, 0);
            e.same("a text", told, set);
        });
        e.sentence("37: With a FAULT: (nothing changes but that THE TAPE is empty; no finding)", () -> {
            String before = "need 3 7;rider;train 9;gain 1;loss 1;day;night;need 0 0;";
            faultIn(Edges::busy, before + "#", 56);
            faultIn(Edges::busy, before + "gain 21", 61);
            faultIn(Edges::busy, before, 56);
            faultIn(Edges::anew, before, 56);
            faultIn(Edges::busy, "", 0);
        });
    }

    public static void main(String[] args) {
        gold();
        odds();
        seed();
        feed();
        wipe();
        tokens();
        grammar();
        faults();
        text();
        e.end();
    }
}
