import java.util.Arrays;

/** The edges of promises 25 to 36: what can be done, how often, how far, what is undone, kept, written and refused. */
public final class ActEdgesTest extends Checks {
    private static final int[] NOT_SO_MANY_YEARS = {0, -1, -40, 41, 42, 999, LEAST, GREATEST};

    // t becomes the other COLOUR each YEAR.
    private static final String EACH_YEAR = blinds(1) + colours(2) + things(1) + "scores 0-worn;";

    private static BlindColours busyIn(int year) {
        BlindColours x = busy();
        x.end(0);
        on(x, year / 256, year % 256, 0, 50, 2, 0, 1, 3, 9, 0, 1, 255, 0);
        x.paint(1, 0);
        write(x, "purse 123;row 8");
        return x;
    }

    /** The seed from which the next one comes by a DRAW. */
    private static int drawn(int seed) {
        return (int) ((1103515245L * seed + 12345) % (1L << 31));
    }

    /** A seed by which the first DRAW of 100 is so. */
    private static int seedFor(int draw) {
        int seed = 0;
        while (drawn(seed) / 64 % 100 != draw) {
            seed++;
        }
        return seed;
    }

    private static BlindColours seeded(String text, int seed) {
        BlindColours x = of(text);
        x.seed(seed);
        return x;
    }

    // ---- promise 25

    private static void p25refused() {
        for (int n : NOT_SO_MANY_YEARS) {
            refused(25, "years(" + n + ")", Checks::busy, x -> x.years(n), NONE, 2, false);
        }
        int[][] beyond = {{999, 1}, {999, 40}, {998, 2}, {998, 40}, {960, 40}, {961, 39}, {989, 11}};
        for (int[] b : beyond) {
            refused(25, "years(" + b[1] + ") in year " + b[0], () -> busyIn(b[0]), x -> x.years(b[1]), NONE, 2, false);
        }
        refused(25, "years(0) without a LAND", BlindColours::new, x -> x.years(0), NONE, 2, false);
    }

    private static void p25taken() {
        int[][] taken = {{0, 1}, {0, 40}, {958, 40}, {959, 40}, {960, 39}, {997, 2}, {998, 1}};
        for (int[] t : taken) {
            BlindColours x = at(SMALL, t[0], 0);
            due(25, "years(" + t[1] + ") in year " + t[0], x.years(t[1]), t[1] > 1 ? 2 : 1);
            due(25, "the year then", x.has(3), t[0] + t[1]);
            due(25, "one ACT", x.has(9), 1);
            due(25, "none refused", x.status(2), 0);
        }
    }

    private static void p25howManyWerePainted() {
        for (int n : new int[] {1, 2, 39, 40}) {
            due(25, "each time counts", of(EACH_YEAR).years(n), n);
            due(25, "no THINGS", of(blinds(1) + colours(1)).years(n), 0);
            due(25, "no COLOURS", of(blinds(1) + things(1)).years(n), 0);
            due(25, "no BLIND", of(colours(1) + things(1)).years(n), 0);
            due(25, "none COUNTS", of(EACH_YEAR + "counts not all;").years(n), 0);
            due(25, "what it wears already", of(blinds(1) + colours(1) + things(1) + "wears m g;").years(n), 0);
            due(25, "what is too dear", of(blinds(1) + "colour c warm 0 loud 0 deep 0 cost 1;" + things(1) + "gives 0;").years(n), 0);
            due(25, "what can just be paid", of(blinds(1) + "colour c warm 0 loud 0 deep 0 cost 9;" + things(1)).years(n), 1);
        }
    }

    private static void p25withoutDraws() {
        BlindColours x = of(SMALL + "row 100;");
        x.years(40);
        due(25, "the seed stays", x.has(10), 1);
        due(25, "no quarrel", x.thing(0, 3), 1);
    }

    private static void p25upTo999() {
        BlindColours x = new BlindColours();
        for (int i = 0; i < 24; i++) {
            due(25, "forty", x.years(40), 0);
        }
        due(25, "year 960", x.years(40), NONE);
        due(25, "thirty-nine", x.years(39), 0);
        due(25, "year 999", x.has(3), 999);
        due(25, "9 in each", x.has(4), 8991);
        due(25, "no more", x.years(1), NONE);
        due(25, "no more by the seed", x.chance(1), NONE);
        due(25, "undone", x.undo(), true);
        due(25, "year 960 again", x.has(3), 960);
        due(25, "one more", x.years(1), 0);
    }

    // ---- promise 26

    private static void p26refused() {
        for (int n : NOT_SO_MANY_YEARS) {
            refused(26, "chance(" + n + ")", Checks::busy, x -> x.chance(n), NONE, 2, false);
        }
        int[][] beyond = {{999, 1}, {999, 40}, {998, 2}, {998, 40}, {960, 40}, {961, 39}, {989, 11}};
        for (int[] b : beyond) {
            refused(26, "chance(" + b[1] + ") in year " + b[0], () -> busyIn(b[0]), x -> x.chance(b[1]), NONE, 2, false);
        }
        refused(26, "chance(0) without a LAND", BlindColours::new, x -> x.chance(0), NONE, 2, false);
    }

    private static void p26taken() {
        int[][] taken = {{0, 1}, {0, 40}, {958, 40}, {959, 40}, {960, 39}, {997, 2}, {998, 1}};
        for (int[] t : taken) {
            BlindColours x = at(SMALL, t[0], 0);
            int seed = 1;
            for (int i = 0; i < t[1]; i++) {
                seed = drawn(seed);
            }
            due(26, "chance(" + t[1] + ") in year " + t[0], x.chance(t[1]), 0);
            due(26, "the year then", x.has(3), t[0] + t[1]);
            due(26, "one DRAW in each", x.has(10), seed);
            due(26, "one ACT", x.has(9), 1);
            due(26, "none refused", x.status(2), 0);
            BlindColours always = at(SMALL + "row 100;", t[0], 0);
            due(26, "a quarrel in each", always.chance(t[1]), t[1]);
        }
    }

    /** "below row": the DRAW that is one less, and the one that is it. */
    private static void p26belowRow() {
        for (int draw : new int[] {0, 1, 18, 50, 98, 99}) {
            int seed = seedFor(draw);
            for (int row : new int[] {0, 1, draw, draw + 1, 99, 100}) {
                BlindColours x = seeded(SMALL + "row " + row + ";", seed);
                boolean quarrel = draw < row;
                due(26, "a DRAW of " + draw + ", row " + row, x.chance(1), quarrel ? 1 : 0);
                due(26, "one DRAW or two", x.has(10), quarrel ? drawn(drawn(seed)) : drawn(seed));
                due(26, "t is PAINTED but in a quarrel", x.thing(0, 3), quarrel ? NONE : 1);
            }
        }
        due(26, "without row", seeded(SMALL, seedFor(0)).chance(1), 0);
    }

    /** "a DRAW of these: that one (by number, as told) says nothing in it". */
    private static void p26whoSaysNothing() {
        for (int many = 1; many <= 6; many++) {
            for (int seed : new int[] {0, 1, 7, 100, 12345, 999983, GREATEST}) {
                BlindColours x = seeded(blinds(many) + colours(2) + things(1) + "row 100;", seed);
                if (many > 1) {
                    x.swap(0, many - 1);
                }
                int silent = drawn(drawn(seed)) / 64 % many;
                due(26, "a quarrel", x.chance(1), 1);
                for (int b = 0; b < many; b++) {
                    int mood = many == 1 ? 5 : b == silent ? 4 : 6;
                    due(26, "of " + many + " number " + silent + " is silent: " + b, x.blind(b, 4), mood);
                }
            }
        }
    }

    private static void p26onlyInThatYear() {
        BlindColours x = seeded(blinds(2) + colours(1) + things(1) + "row 50;", 3);
        int seed = 3;
        int[] mood = {5, 5};
        int quarrels = 0;
        for (int i = 0; i < 9; i++) {
            seed = drawn(seed);
            int silent = NONE;
            if (seed / 64 % 100 < 50) {
                seed = drawn(seed);
                silent = seed / 64 % 2;
                quarrels++;
            }
            for (int b = 0; b < 2; b++) {
                mood[b] = Math.max(0, Math.min(9, mood[b] + (b == silent ? -1 : 1)));
            }
        }
        due(26, "quarrels in nine years", x.chance(9), quarrels);
        due(26, "the seed", x.has(10), seed);
        due(26, "his mood", x.blind(0, 4), mood[0]);
        due(26, "the other one's", x.blind(1, 4), mood[1]);
    }

    private static void p26withoutThem() {
        BlindColours x = of("row 100;" + colours(1) + things(1));
        due(26, "without BLIND no quarrel", x.chance(1), 0);
        due(26, "without BLIND one DRAW", x.has(10), drawn(1));
        BlindColours none = new BlindColours();
        due(26, "without a LAND", none.chance(40), 0);
        due(26, "the purse", none.has(4), 360);
        BlindColours bare = of("row 100;" + blinds(1) + things(1));
        due(26, "without COLOURS", bare.chance(2), 2);
        due(26, "no CHOICE, no MOOD", bare.blind(0, 4), 5);
    }

    // ---- promises 27 to 29

    private static void p27refused() {
        for (int bad : new int[] {3, 4, 6, -1, -2, LEAST, GREATEST}) {
            refused(27, "no THING " + bad, Checks::busy, x -> x.paint(bad, 0) ? 1 : 0, 0, 3, false);
            refused(27, "no THING " + bad + ", no COLOUR", Checks::busy, x -> x.paint(bad, NONE) ? 1 : 0, 0, 3, false);
        }
        for (int bad : new int[] {2, 3, 6, -2, -3, LEAST, GREATEST}) {
            refused(27, "no COLOUR " + bad, Checks::busy, x -> x.paint(0, bad) ? 1 : 0, 0, 3, false);
        }
        for (int colour : new int[] {NONE, 0, 1}) {
            refused(27, "so already", () -> {
                BlindColours x = busy();
                x.paint(1, colour == 1 ? 0 : 1);
                x.paint(1, colour);
                return x;
            }, x -> x.paint(1, colour) ? 1 : 0, 0, 3, false);
        }
        refused(27, "none without a LAND", BlindColours::new, x -> x.paint(0, NONE) ? 1 : 0, 0, 3, false);
        refused(27, "none already", () -> of(SMALL), x -> x.paint(1, NONE) ? 1 : 0, 0, 3, false);
    }

    private static void p27to30inYear999() {
        BlindColours x = at(SMALL + "blind b warm 0 loud 0 deep 0;", 999, 5);
        due(27, "by hand", x.paint(0, 1), true);
        due(28, "the ORDER", x.swap(0, 1), true);
        due(29, "the purse", x.fill(6), true);
        due(30, "the purse", x.undo(), true);
        due(30, "the ORDER", x.undo(), true);
        due(30, "by hand", x.undo(), true);
        due(30, "no more", x.undo(), false);
        due(6, "year 999 still", x.has(3), 999);
        due(6, "the purse", x.has(4), 5);
        due(33, "an image", x.image(), 11);
        due(21, "no next YEAR", x.odds(NONE), NONE);
    }

    private static void p27painted() {
        for (int thing = 0; thing < 6; thing++) {
            for (int colour = 0; colour < 6; colour++) {
                BlindColours x = of(blinds(1) + colours(5) + "colour z warm 0 loud 0 deep 0 cost 99;" + things(6)
                        + "purse 100;");
                due(27, "for nothing, be it dear", x.paint(thing, colour), true);
                due(27, "it wears it", x.thing(thing, 3), colour);
                due(27, "the others none", x.has(5), 5);
                due(27, "the purse", x.has(4), 100);
                due(27, "not KEPT", x.has(7), 0);
                due(27, "the MOOD", x.blind(0, 4), 5);
                due(27, "the year", x.has(3), 0);
                due(27, "an ACT", x.has(9), 1);
                due(27, "it wears none then", x.paint(thing, NONE), true);
                due(27, "none", x.thing(thing, 3), NONE);
                due(27, "an ACT too", x.has(9), 2);
                due(27, "none refused", x.status(3), 0);
            }
        }
        due(27, "in year 999", at(SMALL, 999, 0).paint(0, 0), true);
    }

    private static void p28refused() {
        for (int bad : new int[] {3, 4, 6, -1, -2, LEAST, GREATEST}) {
            refused(28, "no place " + bad, Checks::busy, x -> x.swap(0, bad) ? 1 : 0, 0, 3, false);
            refused(28, "no place " + bad, Checks::busy, x -> x.swap(bad, 0) ? 1 : 0, 0, 3, false);
            refused(28, "no place " + bad + " and one", Checks::busy, x -> x.swap(bad, bad) ? 1 : 0, 0, 3, false);
        }
        for (int one = 0; one < 3; one++) {
            int place = one;
            refused(28, "one place", Checks::busy, x -> x.swap(place, place) ? 1 : 0, 0, 3, false);
        }
        refused(28, "without BLIND", BlindColours::new, x -> x.swap(0, 1) ? 1 : 0, 0, 3, false);
        refused(28, "one alone", () -> of(SMALL), x -> x.swap(0, 1) ? 1 : 0, 0, 3, false);
    }

    private static void p28exchanged() {
        for (int a = 0; a < 6; a++) {
            for (int b = 0; b < 6; b++) {
                if (a != b) {
                    BlindColours x = of(blinds(6));
                    due(28, "exchanged", x.swap(a, b), true);
                    for (int who = 0; who < 6; who++) {
                        due(28, "place of " + who, x.blind(who, 5), who == a ? b : who == b ? a : who);
                    }
                    due(28, "an ACT", x.has(9), 1);
                    due(28, "back", x.swap(b, a), true);
                    due(28, "as at first", x.blind(a, 5), a);
                    due(28, "an ACT too", x.has(9), 2);
                    due(28, "none refused", x.status(3), 0);
                }
            }
        }
    }

    private static void p29refused() {
        for (int bad : new int[] {-1, -2, LEAST, 10000, 10001, 65536, GREATEST, 61}) {
            refused(29, "fill(" + bad + ")", () -> {
                BlindColours x = busy();
                x.fill(60);
                x.fill(61);
                return x;
            }, x -> x.fill(bad) ? 1 : 0, 0, 3, false);
        }
        refused(29, "nothing, as it is", BlindColours::new, x -> x.fill(0) ? 1 : 0, 0, 3, false);
        refused(29, "all, as it is", () -> at(SMALL, 0, 9999), x -> x.fill(9999) ? 1 : 0, 0, 3, false);
    }

    private static void p29filled() {
        BlindColours x = of("purse 5;");
        int acts = 0;
        for (int purse : new int[] {0, 1, 9998, 9999, 0, 4, 5, 6}) {
            due(29, "fill(" + purse + ")", x.fill(purse), true);
            due(29, "the purse", x.has(4), purse);
            acts++;
            due(29, "an ACT", x.has(9), acts);
        }
        due(29, "none refused", x.status(3), 0);
        due(29, "it counts from there on", x.purse(1), 15);
    }

    // ---- promise 30

    private static void p30refused() {
        refused(30, "nothing done", BlindColours::new, x -> x.undo() ? 1 : 0, 0, 4, false);
        refused(30, "a new LAND", () -> of(SMALL), x -> x.undo() ? 1 : 0, 0, 4, false);
        refused(30, "all undone", () -> {
            BlindColours x = busy();
            for (int i = 0; i < 6; i++) {
                due(30, "six ACTS", x.undo(), true);
            }
            return x;
        }, x -> x.undo() ? 1 : 0, 0, 4, false);
        refused(30, "behind AN IMAGE", () -> at(SMALL, 5, 5), x -> x.undo() ? 1 : 0, 0, 4, false);
        refused(30, "twenty undone", () -> {
            BlindColours x = busy();
            for (int i = 0; i < 19; i++) {
                x.fill(i);
            }
            for (int i = 0; i < 20; i++) {
                due(30, "the last twenty", x.undo(), true);
            }
            return x;
        }, x -> x.undo() ? 1 : 0, 0, 4, false);
    }

    /** What is refused is no ACT. */
    private static void p30refusedIsNoAct() {
        BlindColours x = of(SMALL);
        x.fill(3);
        x.years(0);
        x.chance(41);
        x.paint(0, NONE);
        x.swap(0, 0);
        x.fill(3);
        x.seed(8);
        x.image();
        meet(x, 0, 0, 255);
        due(30, "one ACT", x.has(9), 1);
        due(30, "undone", x.undo(), true);
        due(30, "the purse", x.has(4), 0);
        due(30, "but the seed", x.has(10), 8);
        due(30, "MET stays", x.has(8), 1);
        due(30, "no more", x.undo(), false);
    }

    private static BlindColours busyAndRich() {
        BlindColours x = busy();
        x.paint(1, NONE);
        x.paint(1, 0);
        x.fill(300);
        return x;
    }

    /** "all that ACTS change is as it was ahead of it (but the seed)", ACT by ACT. */
    private static void p30eachAct() {
        Call[] acts = {x -> x.years(7), x -> x.chance(7), x -> x.paint(1, 1) ? 1 : 0, x -> x.paint(1, NONE) ? 1 : 0,
            x -> x.swap(0, 2) ? 1 : 0, x -> x.fill(444) ? 1 : 0};
        for (int i = 0; i < acts.length; i++) {
            BlindColours x = busyAndRich();
            BlindColours like = busyAndRich();
            int before = x.has(9);
            due(30, "ACT " + i, acts[i].of(x) >= 0, true);
            int seed = x.has(10);
            due(30, "one ACT more", x.has(9), before + 1);
            due(30, "undone", x.undo(), true);
            due(30, "the seed stays", x.has(10), seed);
            due(30, "so many as ahead of it", x.has(9), before);
            due(30, "an image", x.image(), like.image());
            for (int k = 0; k < 14; k++) {
                due(30, "as it was, ACT " + i + ", byte " + k, x.octet(k), like.octet(k));
            }
            due(30, "KEPT", x.has(7), like.has(7));
            for (int k = 0; k < 3 * like.has(7); k++) {
                due(30, "KEPT, " + k, x.kept(k / 3, k % 3), like.kept(k / 3, k % 3));
            }
            for (int k = before; k > 0; k--) {
                due(30, "the one ahead of it", x.undo(), like.undo());
                due(30, "the year", x.has(3), like.has(3));
                due(30, "the purse", x.has(4), like.has(4));
            }
        }
    }

    private static void p30chanceLeavesTheSeed() {
        BlindColours x = of(SMALL + "row 50;");
        x.chance(3);
        int seed = x.has(10);
        x.undo();
        due(30, "the seed of now", x.has(10), seed);
        due(30, "year 0", x.has(3), 0);
        x.seed(99);
        x.fill(5);
        x.seed(7);
        x.undo();
        due(30, "the latest seed", x.has(10), 7);
    }

    /** "The last 20 can be undone": each number of ACTS up to 45 and beyond, over and over. */
    private static void p30theLastTwenty() {
        for (int acts : new int[] {1, 19, 20, 21, 22, 39, 40, 41, 45}) {
            BlindColours x = new BlindColours();
            for (int i = 1; i <= acts; i++) {
                x.fill(i);
            }
            int can = Math.min(acts, 20);
            due(30, acts + " ACTS", x.has(9), can);
            for (int i = 1; i <= can; i++) {
                due(30, "undone", x.undo(), true);
                due(30, "the purse", x.has(4), acts - i);
                due(30, "so many are left", x.has(9), can - i);
            }
            due(30, "no more", x.undo(), false);
            due(30, "the purse stays", x.has(4), acts - can);
        }
    }

    private static void p30doneAnew() {
        BlindColours x = new BlindColours();
        for (int i = 1; i <= 25; i++) {
            x.fill(i);
        }
        for (int i = 0; i < 7; i++) {
            x.undo();
        }
        for (int i = 101; i <= 105; i++) {
            x.fill(i);
        }
        due(30, "13 and 5", x.has(9), 18);
        int[] want = {104, 103, 102, 101, 18, 17, 16, 15, 14, 13, 12, 11, 10, 9, 8, 7, 6, 5};
        for (int purse : want) {
            due(30, "undone", x.undo(), true);
            due(30, "the purse", x.has(4), purse);
        }
        due(30, "no more", x.undo(), false);
    }

    // ---- promise 31

    private static void p31seeds() {
        for (int seed : new int[] {-1, -2, LEAST, LEAST + 1}) {
            refused(31, "seed(" + seed + ")", Checks::busy, x -> x.seed(seed) ? 1 : 0, 0, 5, false);
            refused(31, "seed(" + seed + ")", BlindColours::new, x -> x.seed(seed) ? 1 : 0, 0, 5, false);
        }
        BlindColours x = new BlindColours();
        for (int seed : new int[] {0, 1, 12345, GREATEST - 1, GREATEST}) {
            due(31, "seed(" + seed + ")", x.seed(seed), true);
            due(31, "the seed", x.has(10), seed);
            due(31, "the same again", x.seed(seed), true);
            x.chance(1);
            due(31, "the next", x.has(10), drawn(seed));
        }
        due(31, "no ACT but the years", x.has(9), 5);
        due(31, "none refused", x.status(5), 0);
    }

    // ---- promise 32

    private static void p32theLastForty() {
        BlindColours x = of(EACH_YEAR);
        due(32, "none yet", x.kept(0, 0), NONE);
        for (int painted : new int[] {1, 39, 40, 41, 43, 80, 81, 121}) {
            BlindColours y = of(EACH_YEAR);
            for (int left = painted; left > 0; left -= 40) {
                y.years(Math.min(40, left));
            }
            int told = Math.min(painted, 40);
            due(32, "told", y.has(7), told);
            for (int k : new int[] {0, 1, told - 1}) {
                int year = painted - told + k;
                due(32, "YEAR of the " + k + "-th", y.kept(k, 0), k < told ? year : NONE);
                due(32, "THING of it", y.kept(k, 1), k < told ? 0 : NONE);
                due(32, "COLOUR of it", y.kept(k, 2), k < told ? year % 2 : NONE);
            }
            for (int k : new int[] {told, 40, 41, -1, LEAST, GREATEST}) {
                for (int what = -1; what <= 3; what++) {
                    due(32, "none such, " + k, y.kept(k, what), NONE);
                }
            }
        }
    }

    private static void p32noWhat() {
        for (int bad : new int[] {3, 4, -1, LEAST, GREATEST}) {
            asks(32, "kept(0, " + bad + ")", Checks::busy, x -> x.kept(0, bad), NONE);
        }
        for (int bad : new int[] {40, -1, LEAST, GREATEST}) {
            asks(32, "kept(" + bad + ", 0)", Checks::busy, x -> x.kept(bad, 0), NONE);
        }
    }

    /** Those alone that are PAINTED in a YEAR, by years() or by the seed. */
    private static void p32whatIsKept() {
        BlindColours x = of(SMALL);
        x.paint(0, 0);
        due(32, "not by hand", x.has(7), 0);
        x.years(1);
        due(32, "in a YEAR", x.has(7), 1);
        due(32, "YEAR", x.kept(0, 0), 0);
        due(32, "THING", x.kept(0, 1), 0);
        due(32, "COLOUR", x.kept(0, 2), 1);
        x.chance(1);
        due(32, "by the seed", x.has(7), 2);
        due(32, "YEAR", x.kept(1, 0), 1);
        due(32, "THING", x.kept(1, 1), 1);
        due(32, "COLOUR", x.kept(1, 2), 0);
        x.years(2);
        due(32, "not what it wears already", x.has(7), 2);
        x.later(0, 40);
        x.tells(0, 0);
        due(32, "not what is ahead", x.has(7), 2);
        x.undo();
        x.undo();
        due(32, "undone", x.has(7), 1);
        due(32, "none such", x.kept(1, 0), NONE);
        BlindColours last = at(EACH_YEAR, 998, 0);
        last.years(1);
        due(32, "in year 998", last.kept(0, 0), 998);
    }

    private static void p32undoneBehindForty() {
        BlindColours x = of(EACH_YEAR);
        x.years(40);
        x.years(40);
        x.years(5);
        due(32, "the oldest", x.kept(0, 0), 45);
        x.undo();
        due(32, "forty still", x.has(7), 40);
        due(32, "the oldest", x.kept(0, 0), 40);
        due(32, "the latest", x.kept(39, 0), 79);
        x.undo();
        due(32, "the oldest", x.kept(0, 0), 0);
        x.undo();
        due(32, "none", x.has(7), 0);
        due(32, "none", x.kept(0, 0), NONE);
    }

    private static void p32paintedAnew() {
        BlindColours x = of(EACH_YEAR);
        x.years(38);
        x.years(5);
        x.undo();
        x.fill(1);
        x.years(4);
        due(32, "forty", x.has(7), 40);
        due(32, "the oldest", x.kept(0, 0), 2);
        due(32, "the latest", x.kept(39, 0), 41);
        for (int k = 0; k < 40; k++) {
            due(32, "YEAR by YEAR", x.kept(k, 0), k + 2);
            due(32, "COLOUR by COLOUR", x.kept(k, 2), k % 2);
        }
    }

    // ---- promises 33 and 34

    private static void p33howMany() {
        for (int many = 0; many <= 6; many++) {
            for (int things = 0; things <= 6; things++) {
                BlindColours x = of(blinds(many) + colours(1) + things(things));
                int length = 5 + 2 * many + things;
                due(33, "bytes", x.image(), length);
                due(34, "the last one", x.octet(length - 1) >= 0, true);
                for (int k : new int[] {length, length + 1, 1600, -1, LEAST, GREATEST}) {
                    due(34, "none such, " + k, x.octet(k), NONE);
                }
            }
        }
    }

    private static void p33eachByte() {
        BlindColours x = of(blinds(6) + colours(6) + things(6));
        int[] want = {3, 231, 39, 15, 5, 4, 3, 2, 1, 0, 0, 9, 1, 8, 2, 7, 255, 5, 0, 255, 3, 4};
        due(35, "on", on(x, want), true);
        due(33, "bytes", x.image(), 23);
        want = checked(want);
        for (int k = 0; k < 23; k++) {
            due(34, "byte " + k, x.octet(k), want[k]);
        }
        BlindColours none = new BlindColours();
        due(33, "no LAND", none.image(), 5);
        // 229, 5 * 229 mod 251 = 141, 5 * 141 mod 251 = 203, 5 * 203 mod 251 = 11, 5 * 11 = 55
        int[] nothing = {0, 0, 0, 0, 55};
        for (int k = 0; k < 5; k++) {
            due(34, "of nothing, byte " + k, none.octet(k), nothing[k]);
        }
    }

    /** "of each place one of the BLIND", not of each of the BLIND his place. */
    private static void p33theOrder() {
        BlindColours x = of(blinds(3));
        x.swap(0, 1);
        x.swap(1, 2);
        due(33, "bytes", x.image(), 11);
        int[] want = {1, 2, 0};
        for (int place = 0; place < 3; place++) {
            due(34, "who is in place " + place, x.octet(4 + place), want[place]);
            due(8, "his place", x.blind(want[place], 5), place);
        }
        due(35, "on", on(x, 0, 0, 0, 0, 2, 0, 1, 5, 5, 5), true);
        want = new int[] {2, 0, 1};
        x.image();
        for (int place = 0; place < 3; place++) {
            due(34, "who is in place " + place, x.octet(4 + place), want[place]);
            due(8, "his place", x.blind(want[place], 5), place);
        }
    }

    private static void p33yearAndPurse() {
        int[][] pairs = {{0, 0}, {255, 255}, {256, 256}, {257, 511}, {512, 512}, {767, 9983}, {768, 9984}, {999, 9999}};
        for (int[] p : pairs) {
            BlindColours x = at("", p[0], p[1]);
            x.image();
            due(33, "YEAR, the higher", x.octet(0), p[0] / 256);
            due(33, "YEAR, the lower", x.octet(1), p[0] % 256);
            due(33, "purse, the higher", x.octet(2), p[1] / 256);
            due(33, "purse, the lower", x.octet(3), p[1] % 256);
        }
    }

    private static void p34theLatest() {
        BlindColours x = of(SMALL);
        for (int k : new int[] {0, 1, 8, -1}) {
            due(34, "no image yet", x.octet(k), NONE);
        }
        x.image();
        due(34, "the mood", x.octet(5), 5);
        x.years(1);
        due(34, "the mood then", x.octet(5), 5);
        x.image();
        due(34, "the mood of the latest", x.octet(5), 6);
        due(34, "the year", x.octet(1), 1);
        x.undo();
        due(34, "undo changes no image", x.octet(1), 1);
        on(x, 0, 7, 0, 0, 0, 5, 255, 255);
        due(34, "nor does on()", x.octet(1), 1);
        for (int k : new int[] {9, 10, 22, 23, 24, -1, LEAST, GREATEST}) {
            asks(34, "octet(" + k + ")", () -> {
                BlindColours y = of(SMALL);
                y.image();
                return y;
            }, y -> y.octet(k), NONE);
        }
    }

    private static void p33changesNothing() {
        BlindColours x = busy();
        int seed = x.has(10);
        x.image();
        due(33, "no ACT", x.has(9), 6);
        due(33, "the seed", x.has(10), seed);
        due(33, "the tape", x.end(15), true);
        due(33, "no more on it", x.end(16), false);
    }

    // ---- promise 35

    private static int[] good() {
        return new int[] {3, 231, 39, 15, 2, 0, 1, 9, 0, 4, 1, 255, 0};
    }

    private static int[] with(int k, int octet) {
        int[] bytes = good();
        bytes[k] = octet;
        return bytes;
    }

    private static void p35taken() {
        int[][] taken = {good(), with(0, 0), with(1, 0), with(2, 0), with(3, 0), with(7, 0), with(8, 9), with(9, 9), with(10, 0), with(10, 255),
            with(12, 1), with(12, 255)};
        for (int[] bytes : taken) {
            BlindColours x = busy();
            int seed = x.has(10);
            x.end(0);
            due(35, Arrays.toString(bytes), on(x, bytes), true);
            due(35, "the year", x.has(3), bytes[0] * 256 + bytes[1]);
            due(35, "the purse", x.has(4), bytes[2] * 256 + bytes[3]);
            for (int i = 0; i < 3; i++) {
                due(35, "the order", x.blind(bytes[4 + i], 5), i);
                due(35, "the mood", x.blind(i, 4), bytes[7 + i]);
                due(35, "worn", x.thing(i, 3), bytes[10 + i] == 255 ? NONE : bytes[10 + i]);
            }
            due(35, "nothing KEPT", x.has(7), 0);
            due(35, "none such", x.kept(0, 0), NONE);
            due(35, "no ACT", x.has(9), 0);
            due(35, "none to undo", x.undo(), false);
            due(35, "the seed stays", x.has(10), seed);
            due(35, "MET stays", x.has(8), 2);
            due(35, "the tape goes", x.end(1), false);
            due(35, "none refused", x.status(5), 0);
        }
    }

    private static void p35refused() {
        int[][] bad = {with(1, 232), with(1, 255), with(0, 4), with(0, 255), with(3, 16), with(3, 255), with(2, 40), with(2, 255),
            with(4, 3), with(4, 255), with(4, 0), with(4, 1), with(5, 2), with(5, 1), with(6, 0), with(6, 2), with(6, 3),
            with(7, 10), with(8, 10), with(9, 10), with(7, 255), with(9, 255), with(10, 2), with(11, 2), with(12, 2), with(10, 254), with(12, 254),
            with(11, 6), Arrays.copyOf(good(), 12), Arrays.copyOf(good(), 14), Arrays.copyOf(good(), 4), Arrays.copyOf(good(), 1), {}};
        for (int[] bytes : bad) {
            refusedOn(Arrays.toString(bytes), checked(bytes));
        }
        refusedOn("without the last byte", good());
        refusedOn("an empty tape");
        for (int less : new int[] {1, 250}) {
            int[] bytes = checked(good());
            bytes[13] = (bytes[13] + less) % 251;
            refusedOn("another last byte", bytes);
        }
        refusedOn("a full tape", new int[1600]);
        refusedOn("a byte behind it", Arrays.copyOf(checked(good()), 15));
        refusedOn("of another LAND", checked(0, 0, 0, 0, 0, 5, 255, 255));
    }

    private static void refusedOn(String what, int... bytes) {
        refused(35, "on " + what, Checks::busy, x -> {
            x.end(0);
            write(x, bytes);
            return x.on() ? 1 : 0;
        }, 0, 5, true);
    }

    /** A last byte is below 251: one that is as much more is another one. */
    private static void p35theLastByteItself() {
        for (int year = 0; year < 256; year++) {
            int[] bytes = checked(0, year, 0, 0);
            if (bytes[4] + 251 < 256) {
                BlindColours x = new BlindColours();
                due(35, "by the last byte " + bytes[4], on(x, 0, year, 0, 0), true);
                bytes[4] += 251;
                write(x, bytes);
                due(35, "by the last byte " + bytes[4], x.on(), false);
            }
        }
    }

    private static void p35withoutThem() {
        BlindColours none = new BlindColours();
        due(35, "no LAND", on(none, 3, 231, 39, 15), true);
        due(35, "year 999", none.has(3), 999);
        due(35, "the purse 9999", none.has(4), 9999);
        due(35, "five bytes alone", on(none, 0, 0, 0, 0, 255), false);
        due(35, "year 1000", on(none, 3, 232, 0, 0), false);
        due(35, "purse 10000", on(none, 0, 0, 39, 16), false);
        BlindColours bare = of(things(1));
        due(35, "no COLOURS, none worn", on(bare, 0, 0, 0, 0, 255), true);
        due(35, "no COLOURS", on(bare, 0, 0, 0, 0, 0), false);
        BlindColours six = of(blinds(6) + colours(6) + things(6));
        due(35, "six of each", on(six, 0, 0, 0, 0, 0, 1, 2, 3, 4, 5, 0, 0, 0, 0, 0, 0, 5, 5, 5, 5, 5, 5), true);
        due(35, "the seventh COLOUR", on(six, 0, 0, 0, 0, 0, 1, 2, 3, 4, 5, 0, 0, 0, 0, 0, 0, 5, 5, 5, 5, 5, 6), false);
        due(35, "the seventh one of the BLIND", on(six, 0, 0, 0, 0, 0, 1, 2, 3, 4, 6, 0, 0, 0, 0, 0, 0, 5, 5, 5, 5, 5, 5), false);
    }

    /** What image() wrote is AN IMAGE for on(), whatever was done. */
    private static void p35thereAndBack() {
        BlindColours x = busy();
        int length = x.image();
        int[] bytes = new int[length];
        for (int k = 0; k < length; k++) {
            bytes[k] = x.octet(k);
        }
        int[] then = {x.has(3), x.has(4), x.has(5), x.has(6)};
        x.years(20);
        x.swap(1, 2);
        x.end(0);
        write(x, bytes);
        due(35, "its own image", x.on(), true);
        for (int what = 3; what <= 6; what++) {
            due(35, "as it was, " + what, x.has(what), then[what - 3]);
        }
        x.image();
        for (int k = 0; k < length; k++) {
            due(35, "as it was, byte " + k, x.octet(k), bytes[k]);
        }
    }

    // ---- promise 36

    private static void p36howMany() {
        Call[] calls = {x -> x.end(-1) ? 1 : 0, x -> tell(x, "x"), x -> x.years(0), x -> x.chance(0), x -> x.paint(9, 9) ? 1 : 0,
            x -> x.swap(9, 9) ? 1 : 0, x -> x.fill(-1) ? 1 : 0, x -> x.undo() ? 1 : 0, x -> x.seed(-1) ? 1 : 0, BlindColours::meet,
            x -> x.on() ? 1 : 0};
        int[] kinds = {0, 1, 2, 2, 3, 3, 3, 4, 5, 5, 5};
        int[] want = new int[6];
        BlindColours x = new BlindColours();
        for (int round = 0; round < 3; round++) {
            for (int i = 0; i < calls.length; i++) {
                calls[i].of(x);
                want[kinds[i]]++;
                for (int kind = 0; kind < 6; kind++) {
                    due(36, "status(" + kind + ") behind call " + i, x.status(kind), want[kind]);
                }
            }
        }
        write(x, " ".repeat(1600));
        x.feed(0, 0, 0, 0, 0);
        want[0]++;
        due(36, "feed()", x.status(0), want[0]);
        due(36, "another LAND", x.land(), 0);
        due(36, "AN IMAGE", on(x, 0, 0, 0, 0), true);
        for (int kind = 0; kind < 6; kind++) {
            due(36, "status(" + kind + ") behind another LAND, AN IMAGE", x.status(kind), want[kind]);
        }
    }

    private static void p36none() {
        for (int bad : new int[] {6, 7, -1, -2, LEAST, GREATEST}) {
            asks(36, "status(" + bad + ")", Checks::busy, x -> x.status(bad), NONE);
        }
    }

    private static void p36whatIsTakenIsNotCounted() {
        BlindColours x = of(SMALL + "blind b warm 0 loud 0 deep 0;");
        x.years(1);
        x.chance(1);
        x.paint(0, NONE);
        x.swap(0, 1);
        x.fill(3);
        x.undo();
        x.seed(3);
        meet(x, 0, 0, 255);
        x.end(0);
        x.land();
        on(x, 0, 0, 0, 0);
        for (int kind = 0; kind < 6; kind++) {
            due(36, "status(" + kind + ")", x.status(kind), 0);
        }
    }

    public static void main(String[] args) {
        p25refused();
        p25taken();
        p25howManyWerePainted();
        p25withoutDraws();
        p25upTo999();
        p26refused();
        p26taken();
        p26belowRow();
        p26whoSaysNothing();
        p26onlyInThatYear();
        p26withoutThem();
        p27refused();
        p27to30inYear999();
        p27painted();
        p28refused();
        p28exchanged();
        p29refused();
        p29filled();
        p30refused();
        p30refusedIsNoAct();
        p30eachAct();
        p30chanceLeavesTheSeed();
        p30theLastTwenty();
        p30doneAnew();
        p31seeds();
        p32theLastForty();
        p32noWhat();
        p32whatIsKept();
        p32undoneBehindForty();
        p32paintedAnew();
        p33howMany();
        p33eachByte();
        p33theOrder();
        p33yearAndPurse();
        p34theLatest();
        p33changesNothing();
        p35taken();
        p35refused();
        p35theLastByteItself();
        p35withoutThem();
        p35thereAndBack();
        p36howMany();
        p36none();
        p36whatIsTakenIsNotCounted();
        finish();
    }
}
