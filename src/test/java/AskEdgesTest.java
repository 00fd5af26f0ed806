/** The edges of promises 6 to 24: what can be asked, of whom, how far ahead, and what is none such. */
public final class AskEdgesTest extends Checks {
    private static final int[] WILD = {LEAST, LEAST + 1, -1000, -2, -1, GREATEST};

    // t becomes the other COLOUR each YEAR.
    private static final String EACH_YEAR = blinds(1) + colours(2) + things(1) + "scores 0-worn;";

    // t becomes g, if a's TASTE for warm is k or more, else r; nothing else tells it.
    private static String becomes(int k) {
        return "blind a warm 0 loud " + k + " deep 0;colour g warm 9 loud 9 deep 0 cost 0;colour r warm 0 loud 0 deep 0 cost 0;"
                + "thing t warm 9 loud 0 deep 0;";
    }

    // ---- promise 6

    private static void p6none() {
        for (int what : WILD) {
            asks(6, "has(" + what + ")", Checks::busy, x -> x.has(what), NONE);
        }
        for (int what : new int[] {11, 12, 100}) {
            asks(6, "has(" + what + ")", Checks::busy, x -> x.has(what), NONE);
        }
        asks(6, "has(10)", () -> at(SMALL, 5, 5), x -> x.has(10), 1);
    }

    private static void p6howManyThereAre() {
        for (int many = 0; many <= 6; many++) {
            BlindColours x = of(blinds(many) + colours(6 - many) + things(many));
            due(6, "BLIND", x.has(0), many);
            due(6, "COLOURS", x.has(1), 6 - many);
            due(6, "THINGS", x.has(2), many);
            due(6, "THINGS that wear none", x.has(5), many);
        }
    }

    private static void p6yearAndPurse() {
        for (int year : new int[] {0, 1, 998, 999}) {
            due(6, "YEAR", at(SMALL, year, 0).has(3), year);
        }
        for (int purse : new int[] {0, 1, 9998, 9999}) {
            due(6, "the purse", at(SMALL, 0, purse).has(4), purse);
        }
    }

    private static void p6wearNoneAndClashes() {
        for (int many = 1; many <= 6; many++) {
            String text = things(many) + colours(2) + allNear(many);
            due(6, "two that wear none are no CLASH", of(text).has(6), 0);
            BlindColours x = of(text + allWear(many, 'g'));
            due(6, "none wears none", x.has(5), 0);
            due(6, "all are CLASHES", x.has(6), many * (many - 1) / 2);
            x.paint(0, 1);
            due(6, "one wears another COLOUR", x.has(6), (many - 1) * (many - 2) / 2);
            x.paint(0, NONE);
            due(6, "one wears none", x.has(5), 1);
            due(6, "he is in no CLASH", x.has(6), (many - 1) * (many - 2) / 2);
            due(6, "not NEAR, no CLASH", of(things(many) + colours(1) + allWear(many, 'g')).has(6), 0);
        }
    }

    private static void p6keptAndActs() {
        BlindColours x = of(EACH_YEAR);
        due(6, "none KEPT", x.has(7), 0);
        for (int i = 1; i <= 45; i++) {
            x.years(1);
            due(6, "KEPT", x.has(7), Math.min(i, 40));
            due(6, "ACTS that can be undone", x.has(9), Math.min(i, 20));
        }
    }

    private static void p6metAndSeed() {
        BlindColours x = of(SMALL);
        due(6, "none MET", x.has(8), 0);
        for (int rows = 1; rows <= 16; rows++) {
            due(6, "meet", meet(x, new int[3 * rows]), rows);
            due(6, "rows MET", x.has(8), rows);
        }
        due(6, "rows", meet(x, new int[51]), NONE);
        due(6, "rows MET", x.has(8), 16);
        meet(x, 0, 0, 0);
        due(6, "of the latest", x.has(8), 1);
        for (int seed : new int[] {0, 1, GREATEST}) {
            x.seed(seed);
            due(6, "the seed", x.has(10), seed);
        }
    }

    // ---- promise 7

    private static void p7letters() {
        BlindColours x = of("blind a warm 1 loud 1 deep 1;colour zzzzzz warm 1 loud 1 deep 1 cost 1;colour az warm 1 loud 1 deep 1 cost 1;"
                + "thing abyzba warm 1 loud 1 deep 1;");
        int[][] want = {{1, 0, 0, 0, 0, 0}, {26, 26, 26, 26, 26, 26}, {1, 2, 25, 26, 2, 1}};
        for (int kind = 0; kind < 3; kind++) {
            for (int k = 0; k < 6; k++) {
                due(7, "letter " + k, x.letter(kind, 0, k), want[kind][k]);
            }
            for (int bad : new int[] {6, 7, -1, LEAST, GREATEST}) {
                due(7, "letter " + bad, x.letter(kind, 0, bad), NONE);
            }
        }
        due(7, "the second one", x.letter(1, 1, 1), 26);
        due(7, "behind it", x.letter(1, 1, 2), 0);
    }

    private static void p7shortAndLong() {
        for (char c : new char[] {'a', 'b', 'y', 'z'}) {
            for (int length = 1; length <= 6; length++) {
                BlindColours x = of("thing " + String.valueOf(c).repeat(length) + " warm 1 loud 1 deep 1;blind m" + "q".repeat(length - 1)
                        + " warm 1 loud 1 deep 1;");
                for (int k = 0; k < 6; k++) {
                    due(7, length + " times " + c, x.letter(2, 0, k), k < length ? c - 'a' + 1 : 0);
                    due(7, "another of " + length, x.letter(0, 0, k), k == 0 ? 13 : k < length ? 17 : 0);
                }
            }
        }
    }

    private static void p7noneSuch() {
        int[] many = {3, 2, 3};
        for (int kind = 0; kind < 3; kind++) {
            int of = kind;
            due(7, "the last one", busy().letter(kind, many[kind] - 1, 0), new int[] {3, 2, 23}[kind]);
            for (int bad : new int[] {many[kind], 6, -1, LEAST, GREATEST}) {
                asks(7, "letter(" + kind + ", " + bad + ", 0)", Checks::busy, x -> x.letter(of, bad, 0), NONE);
            }
        }
        for (int bad : new int[] {3, 4, -1, LEAST, GREATEST}) {
            asks(7, "letter(" + bad + ", 0, 0)", Checks::busy, x -> x.letter(bad, 0, 0), NONE);
        }
        BlindColours six = of(blinds(6) + colours(6) + things(6));
        for (int i = 0; i < 18; i++) {
            due(7, "one of six", six.letter(i / 6, i % 6, 0), 1 + i);
        }
        for (int kind = 0; kind < 3; kind++) {
            due(7, "no seventh", six.letter(kind, 6, 0), NONE);
        }
    }

    // ---- promise 8

    private static void p8whoIsThere() {
        BlindColours six = of(blinds(6) + "late f;late a;");
        for (int b = 0; b < 6; b++) {
            int[] want = {0, 0, 0, b == 0 || b == 5 ? 1 : 0, 5, b, 1};
            for (int what = 0; what <= 6; what++) {
                due(8, "blind(" + b + ", " + what + ")", six.blind(b, what), want[what]);
            }
        }
        for (int bad : new int[] {3, 4, -1, LEAST, GREATEST}) {
            for (int what = -1; what <= 7; what++) {
                due(8, "blind(" + bad + ", " + what + ") of three", busy().blind(bad, what), NONE);
            }
        }
        due(8, "no seventh", six.blind(6, 0), NONE);
        for (int bad : new int[] {7, 8, -1, LEAST, GREATEST}) {
            asks(8, "blind(0, " + bad + ")", Checks::busy, x -> x.blind(0, bad), NONE);
        }
    }

    private static void p8moodsFrom0To9() {
        // All say g (of like ones the first); the one who is LATE says h, and is never chosen.
        BlindColours x = of(blinds(2) + "late b;" + colours(2) + things(1) + "scores if(late=1 and cost=0,0-heard,0-worn*0);");
        int[] up = {5, 6, 7, 8, 9, 9, 9};
        int[] down = {5, 4, 3, 2, 1, 0, 0};
        for (int n = 0; n < 7; n++) {
            due(8, "his MOOD, chosen", x.blind(0, 4), up[n]);
            due(8, "his MOOD, not chosen", x.blind(1, 4), down[n]);
            x.years(1);
        }
    }

    private static void p8placeInTheOrder() {
        BlindColours x = of(blinds(6));
        x.swap(0, 5);
        x.swap(5, 1);
        int[] places = {1, 5, 2, 3, 4, 0};
        for (int b = 0; b < 6; b++) {
            due(8, "place of " + b, x.blind(b, 5), places[b]);
        }
    }

    private static void p8whetherHisWordCounts() {
        String two = blinds(2) + "late b;" + colours(1);
        due(8, "without counts", of(two).blind(1, 6), 1);
        due(8, "all", of(two + "counts all;").blind(1, 6), 1);
        due(8, "not all", of(two + "counts not all;").blind(1, 6), 0);
        due(8, "late", of(two + "counts late=1;").blind(0, 6), 0);
        due(8, "late", of(two + "counts late=1;").blind(1, 6), 1);
        due(8, "mood 5 is not above 5", of(two + "counts mood>5;").blind(0, 6), 0);
        due(8, "mood 5 is above 4", of(two + "counts mood>4;").blind(0, 6), 1);
        BlindColours x = of(two + "counts year<2;");
        x.years(1);
        due(8, "in year 1", x.blind(0, 6), 1);
        x.years(1);
        due(8, "in year 2", x.blind(0, 6), 0);
        due(8, "nobody there", of("counts all;").blind(0, 6), NONE);
    }

    // ---- promises 9 and 10

    private static void p9colours() {
        BlindColours x = of("colour c warm 0 loud 9 deep 1 cost 0;colour d warm 9 loud 0 deep 8 cost 99;" + things(6) + allWear(5, 'd'));
        int[][] want = {{0, 9, 1, 0, 0}, {9, 0, 8, 99, 5}};
        for (int c = 0; c < 2; c++) {
            for (int what = 0; what < 5; what++) {
                due(9, "colour(" + c + ", " + what + ")", x.colour(c, what), want[c][what]);
            }
        }
        x.paint(5, 1);
        due(9, "all six wear it", x.colour(1, 4), 6);
        for (int bad : new int[] {2, 3, 6, -1, LEAST, GREATEST}) {
            for (int what = -1; what <= 5; what++) {
                due(9, "none such, colour(" + bad + ", " + what + ")", x.colour(bad, what), NONE);
            }
        }
        for (int bad : new int[] {5, 6, -1, LEAST, GREATEST}) {
            asks(9, "colour(0, " + bad + ")", Checks::busy, y -> y.colour(0, bad), NONE);
        }
        due(9, "the sixth", of(colours(6)).colour(5, 4), 0);
        due(9, "no seventh", of(colours(6)).colour(6, 4), NONE);
        due(9, "no COLOURS", of(blinds(1) + things(1)).colour(0, 0), NONE);
    }

    private static void p10things() {
        BlindColours x = of("colour g warm 0 loud 0 deep 0 cost 0;thing y warm 0 loud 9 deep 1;thing z warm 9 loud 0 deep 8;wears z g;");
        int[][] want = {{0, 9, 1, NONE, 0}, {9, 0, 8, 0, 0}};
        for (int t = 0; t < 2; t++) {
            for (int what = 0; what < 5; what++) {
                due(10, "thing(" + t + ", " + what + ")", x.thing(t, what), want[t][what]);
            }
        }
        for (int bad : new int[] {2, 3, 6, -1, LEAST, GREATEST}) {
            for (int what = -1; what <= 5; what++) {
                due(10, "none such, thing(" + bad + ", " + what + ")", x.thing(bad, what), NONE);
            }
        }
        for (int bad : new int[] {5, 6, -1, LEAST, GREATEST}) {
            asks(10, "thing(0, " + bad + ")", Checks::busy, y -> y.thing(0, bad), NONE);
        }
        due(10, "no seventh", of(things(6)).thing(6, 4), NONE);
        due(10, "no THINGS", of(blinds(1) + colours(1)).thing(0, 3), NONE);
        for (int many = 1; many <= 6; many++) {
            BlindColours near = of(things(6) + allNear(many));
            for (int t = 0; t < 6; t++) {
                due(10, "NEAR", near.thing(t, 4), t < many ? many - 1 : 0);
            }
        }
    }

    private static void p10theLastOneCounts() {
        BlindColours x = of(colours(3) + things(2) + "wears m g;wears n h;wears m i;wears n g;");
        due(10, "m", x.thing(0, 3), 2);
        due(10, "n", x.thing(1, 3), 0);
    }

    // ---- promise 11

    /** The SCORE of the one COLOUR (cost 13), worn by one THING, by the one who is LATE, his MOOD being 5, the MATCH 7, in YEAR 17. */
    private static long worked(String sum) {
        return at("blind a warm 1 loud 0 deep 2;late a;colour c warm 1 loud 1 deep 1 cost 13;thing t warm 5 loud 1 deep 9;scores " + sum + ";",
                17, 0).score(0, 0, 0);
    }

    /** "each result above 10 to the 6 is that, below -10 to the 6 likewise". */
    private static void p11tenToTheSix() {
        String[] sums = {"1000*1000", "999*1001", "1000*1000+0", "1000*1000+1", "1000*999+999+1", "1000*999+999+2", "1000*1001", "9999*9999",
            "1000*1000+1-1", "1000*1000*1000/1000", "0-1000*1000", "0-999*1001", "0-1000*1000-1", "0-999*1001-1", "0-999*1001-2",
            "0-1000*1000-1+1", "(0-1000)*1001", "(0-9999)*9999", "(0-9999*9999)*(9999*9999)", "(0-9999*9999)*(0-9999*9999)",
            "9999*9999-(0-9999*9999)", "0-9999*9999-9999*9999", "min(1000*1000,9999*9999)", "max(0-9999*9999,0-1000*1001)",
            "if(1000*1000=1000*1001,1,2)", "if(1000*1000<1000*1001,1,2)", "9999*9999/1", "9999*9999/(0-1)", "9999*9999%9999"};
        long[] want = {1000000, 999999, 1000000, 1000000, 1000000, 1000000, 1000000, 1000000,
            999999, 1000, -1000000, -999999, -1000000, -1000000, -1000000,
            -999999, -1000000, -1000000, -1000000, 1000000,
            1000000, -1000000, 1000000, -1000000,
            1, 2, 1000000, -1000000, 1000000 % 9999};
        for (int i = 0; i < sums.length; i++) {
            due(11, sums[i], worked(sums[i]), want[i]);
        }
    }

    /** "/ gives the greatest whole number not above, % what is left (a less b times that); by 0 both give 0". */
    private static void p11overAndLeft() {
        int[] all = {0, 1, 2, 3, 6, 7, 8, 9999, -1, -2, -3, -6, -7, -8, -9999};
        for (int a : all) {
            for (int b : all) {
                String sum = (a < 0 ? "(0-" + -a + ")" : "" + a) + "@" + (b < 0 ? "(0-" + -b + ")" : "" + b);
                long over = 0;
                if (b != 0) {
                    over = (long) Math.floor((double) a / b);
                }
                due(11, sum + " by /", worked(sum.replace("@", "/")), over);
                due(11, sum + " by %", worked(sum.replace("@", "%")), b == 0 ? 0 : a - b * over);
            }
        }
        due(11, "by what is 0", worked("7/(5-5)+1"), 1);
        due(11, "by what is 0", worked("7%(5-5)+1"), 1);
    }

    /** "All from the left on". */
    private static void p11fromTheLeft() {
        String[] sums = {"9-4-3", "9-4+3", "9/2*2", "9*2/4", "9%5*3", "9*3%5", "8/3%2", "1+2*3-4", "(1+2)*3-4", "2*(3-4)*5", "7-2*2%3", "100/7/3",
            "2-3*4", "1-2-3-4-5", "3%2%1", "if(not 1>2 and 1>2,1,2)", "if(not [1>2 and 1>2],1,2)", "if(1>2 and 1>2 or all,1,2)",
            "if(all or 1>2 and 1>2,1,2)", "if([all or 1>2] and 1>2,1,2)", "if(1>2 and [1>2 or all],1,2)", "if(not all or all,1,2)",
            "if(not not all,1,2)", "if(not not not all,1,2)", "if(1+1=2,1,2)", "if(2=1+1,1,2)", "if(1<1,1,2)", "if(1>1,1,2)", "if(1=1,1,2)",
            "if(1<2,1,2)", "if(2>1,1,2)", "if(2<1,1,2)", "if(1>2,1,2)", "if(1=2,1,2)"};
        long[] want = {2, 8, 8, 4, 12, 2, 0, 3, 5, -10, 6, 4, -10, -13, 0, 2, 1, 1, 1, 2, 2, 1, 1, 2, 1, 1, 2, 2, 1, 1, 1, 2, 2, 2};
        for (int i = 0; i < sums.length; i++) {
            due(11, sums[i], worked(sums[i]), want[i]);
        }
    }

    /** Each form of a FACT that holds, and that does not, alone, behind not, and by and, or with each other one. */
    private static void p11facts() {
        String[] facts = {"1<2", "2>1", "1=1", "all", "[1<2]", "[all]", "not 1>2", "not 2<1", "not 1=2", "not not all", "9999>1", "5<9999",
            "1>2", "1<1", "1>1", "1=2", "2<1", "not all", "[1>2]", "not 1<2", "not 2>1", "not 1=1", "not [all]", "[not all]"};
        int holding = 12;
        for (int i = 0; i < facts.length; i++) {
            boolean first = i < holding;
            due(11, facts[i], worked("if(" + facts[i] + ",1,0)"), first ? 1 : 0);
            due(11, "not " + facts[i], worked("if(not " + facts[i] + ",1,0)"), first ? 0 : 1);
            for (int k = 0; k < facts.length; k++) {
                boolean second = k < holding;
                String both = facts[i] + " and " + facts[k];
                String one = facts[i] + " or " + facts[k];
                due(11, both, worked("if(" + both + ",1,0)"), first && second ? 1 : 0);
                due(11, one, worked("if(" + one + ",1,0)"), first || second ? 1 : 0);
            }
        }
    }

    private static void p11whatCanBeAsked() {
        String[] parts = {"year", "mood", "late", "match", "worn", "heard", "cost"};
        long[] want = {17, 5, 1, 7, 0, 0, 13};
        for (int i = 0; i < parts.length; i++) {
            due(11, parts[i], worked(parts[i]), want[i]);
        }
        due(11, "not LATE", of(SMALL + "scores late;").score(0, 0, 0), 0);
        for (int many = 0; many <= 6; many++) {
            due(11, "worn by " + many, of(blinds(1) + colours(2) + things(6) + allWear(many, 'h') + "scores worn;").score(0, 0, 1), many);
        }
        due(11, "match, the greatest", of("blind a warm 9 loud 9 deep 9;colour c warm 0 loud 5 deep 9 cost 0;"
                + "thing t warm 0 loud 5 deep 9;").score(0, 0, 0), 243);
        due(11, "match, the least", of("blind a warm 9 loud 9 deep 9;colour c warm 0 loud 9 deep 0 cost 0;"
                + "thing t warm 9 loud 0 deep 9;").score(0, 0, 0), 0);
        BlindColours x = of(blinds(3) + colours(1) + things(1) + "scores heard;");
        due(11, "the choice is heard", x.choice(0, 1), 3);
        due(11, "nothing is heard", x.score(2, 0, 0), 0);
    }

    private static void p11noneSuch() {
        for (int bad : new int[] {2, 3, 6, -1, -2, LEAST, GREATEST}) {
            asks(11, "no COLOUR " + bad, Checks::busy, x -> x.score(0, 0, bad), NOTHING);
        }
        for (int bad : new int[] {3, 4, 6, -1, -2, LEAST, GREATEST}) {
            asks(11, "nobody " + bad, Checks::busy, x -> x.score(bad, 0, 0), NOTHING);
            asks(11, "no THING " + bad, Checks::busy, x -> x.score(0, bad, 0), NOTHING);
        }
        due(11, "the last ones", of(blinds(6) + colours(6) + things(6) + "scores 4;").score(5, 5, 5), 4);
        due(11, "no COLOURS", of(blinds(1) + things(1)).score(0, 0, 0), NOTHING);
        due(11, "no BLIND", of(colours(1) + things(1)).score(0, 0, 0), NOTHING);
        due(11, "no THINGS", of(blinds(1) + colours(1)).score(0, 0, 0), NOTHING);
    }

    // ---- promises 12 and 13

    private static void p12words() {
        due(12, "without COLOURS", of(blinds(1) + things(1)).word(0, 0), NONE);
        due(12, "without BLIND", of(colours(1) + things(1)).word(0, 0), NONE);
        due(12, "without THINGS", of(blinds(1) + colours(1)).word(0, 0), NONE);
        due(12, "one COLOUR", of(blinds(1) + colours(1) + things(1)).word(0, 0), 0);
        due(12, "one COLOUR, however low", of(blinds(1) + colours(1) + things(1) + "scores 0-9999*9999;").word(0, 0), 0);
        due(12, "of like ones the first", of(blinds(6) + colours(6) + things(6)).word(5, 5), 0);
        due(12, "of like ones the first, all as low as can be", of(blinds(1) + colours(6) + things(1) + "scores 0-9999*9999;").word(0, 0), 0);
        due(12, "the last is greater by one", of(blinds(1) + colours(6) + things(2) + "wears n l;scores worn;").word(0, 0), 5);
        due(12, "of two that are greater the first", of(blinds(1) + colours(6) + things(3) + "wears n l;wears o j;scores worn;").word(0, 0), 3);
        due(12, "he who does not count has a WORD", of(SMALL + "counts not all;").word(0, 0), 1);
        for (int bad : new int[] {3, 4, 6, -1, -2, LEAST, GREATEST}) {
            asks(12, "nobody " + bad, Checks::busy, x -> x.word(bad, 0), NONE);
            asks(12, "no THING " + bad, Checks::busy, x -> x.word(0, bad), NONE);
        }
    }

    /** What is heard changes a WORD in the CHOICE, not the one that word() tells. */
    private static void p12nothingBeingHeard() {
        BlindColours x = of(TALK);
        due(12, "y says b by himself", x.word(1, 0), 1);
        due(13, "hearing x he says r", x.choice(0, 1), 3);
        due(12, "by himself still", x.word(1, 0), 1);
        for (int many = 1; many <= 3; many++) {
            BlindColours y = of(blinds(many) + colours(1) + "colour h warm 0 loud 0 deep 0 cost 9;" + things(1)
                    + "scores if(heard=0,cost,0-cost);");
            due(12, "of none heard the dear one", y.word(many - 1, 0), 1);
            due(13, "the first says h, then g, then g or h by what is less", y.choice(0, 1), many == 3 ? 2 : 1);
            due(12, "of none heard still", y.word(many - 1, 0), 1);
        }
    }

    private static void p13choices() {
        due(13, "one who counts", of(SMALL).choice(0, 0), 1);
        due(13, "by one WORD", of(SMALL).choice(0, 1), 1);
        for (int many = 1; many <= 6; many++) {
            BlindColours x = of(blinds(many) + colours(6) + things(1));
            due(13, "of like ones the first", x.choice(0, 0), 0);
            due(13, "all WORDS", x.choice(0, 1), many);
        }
        String text = blinds(6) + colours(6) + things(1) + "scores 0-heard;";
        due(13, "six COLOURS, a WORD for each: the first", of(text).choice(0, 0), 0);
        due(13, "by one WORD", of(text).choice(0, 1), 1);
        due(13, "the one who counts is heard, so that those ahead of him are not", of(text + "late f;counts late=1;").choice(0, 1), 1);
        String half = blinds(4) + "late c;late d;" + colours(1) + "colour h warm 0 loud 0 deep 0 cost 50;" + things(1)
                + "scores if(late=1,cost-heard,0);";
        due(13, "two and two: the first", of(half).choice(0, 0), 0);
        due(13, "by two", of(half).choice(0, 1), 2);
        due(13, "one and two: the second", of(half.replace("late c", "late b;late c")).choice(0, 0), 1);
        due(13, "by three", of(half.replace("late c", "late b;late c")).choice(0, 1), 3);
    }

    private static void p13none() {
        for (int what = 0; what <= 1; what++) {
            int of = what;
            due(13, "none COUNTS", of(blinds(3) + colours(2) + things(1) + "counts not all;").choice(0, what), NONE);
            due(13, "no COLOURS", of(blinds(3) + things(1)).choice(0, what), NONE);
            due(13, "no BLIND", of(colours(2) + things(1)).choice(0, what), NONE);
            due(13, "no THINGS", of(blinds(3) + colours(2)).choice(0, what), NONE);
            for (int bad : new int[] {3, 4, 6, -1, -2, LEAST, GREATEST}) {
                asks(13, "no THING " + bad, Checks::busy, x -> x.choice(bad, of), NONE);
            }
        }
        for (int bad : new int[] {2, 3, -1, LEAST, GREATEST}) {
            asks(13, "no what " + bad, Checks::busy, x -> x.choice(0, bad), NONE);
        }
    }

    private static void p13whoseWordCounts() {
        String text = TALK + "late x;counts late=@;";
        // x says r; y does not hear him (50 at most counts), says b; z says g: one of them counts.
        due(13, "x alone counts: r", of(text.replace("@", "1")).choice(0, 0), 0);
        due(13, "by one", of(text.replace("@", "1")).choice(0, 1), 1);
        due(13, "y and z count: b, which y says, then z hears it: 50 is below 81", of(text.replace("@", "0")).choice(0, 0), 1);
        due(13, "by one", of(text.replace("@", "0")).choice(0, 1), 1);
        due(13, "counts in year 0 alone", of(TALK + "counts year<1;").choice(0, 1), 3);
        BlindColours x = of(TALK + "counts year<1;");
        x.years(1);
        due(13, "none in year 1", x.choice(0, 0), NONE);
    }

    // ---- promises 14 to 16

    private static void p14to16howFar() {
        int[][] ends = {{0, 40}, {958, 40}, {959, 40}, {960, 39}, {961, 38}, {997, 2}, {998, 1}, {999, 0}};
        for (int[] end : ends) {
            BlindColours x = at(SMALL, end[0], 0);
            boolean asked = end[1] > 1 || end[1] == 1 && end[0] % 2 == 1;
            due(14, "u, asked for in each year of 1 modulo 2, from year " + end[0], x.later(1, end[1]), asked ? 0 : NONE);
            due(15, "from year " + end[0], x.mood(0, end[1]), Math.min(9, 5 + end[1]));
            due(16, "from year " + end[0], x.purse(end[1]) == NONE, false);
            for (int n : new int[] {end[1] + 1, 41, 42, GREATEST, -1, LEAST}) {
                due(14, n + " from year " + end[0], x.later(0, n), NONE);
                due(15, n + " from year " + end[0], x.mood(0, n), NONE);
                due(16, n + " from year " + end[0], x.purse(n), NONE);
            }
            due(16, "the year stays", x.has(3), end[0]);
        }
        BlindColours each = of(EACH_YEAR);
        for (int n = 1; n <= 40; n++) {
            due(14, "the COLOURS by turns, " + n, each.later(0, n), (n + 1) % 2);
        }
    }

    private static void p14to16now() {
        BlindColours x = of(SMALL + "purse 7;wears u g;");
        due(14, "now", x.later(0, 0), NONE);
        due(14, "now", x.later(1, 0), 1);
        due(15, "now", x.mood(0, 0), 5);
        due(16, "now", x.purse(0), 7);
        x.years(4);
        for (int n = 0; n <= 9; n++) {
            due(16, "n from now on", x.purse(n), x.has(4) + 9 * n);
        }
    }

    /** "without DRAWS". */
    private static void p14to16withoutDraws() {
        for (int seed : new int[] {0, 1, 50, 99, GREATEST}) {
            BlindColours x = of(SMALL + "row 100;");
            x.seed(seed);
            due(14, "t, no quarrel", x.later(0, 1), 1);
            due(14, "u, no quarrel", x.later(1, 2), 0);
            due(15, "chosen each time", x.mood(0, 3), 8);
            due(16, "paid", x.purse(2), 10);
            meet(x, 1, 0, 1, 2, 1, 0);
            due(23, "all but 0, who says r", x.tastes(0), 1022);
            due(24, "nine are left", x.tells(0, 2), 9);
            due(14, "no DRAW", x.has(10), seed);
        }
    }

    private static void p14to16asAsked() {
        for (int bad : new int[] {3, 4, 6, -1, -2, LEAST, GREATEST}) {
            asks(14, "no THING " + bad, Checks::busy, x -> x.later(bad, 3), NONE);
            asks(15, "nobody " + bad, Checks::busy, x -> x.mood(bad, 3), NONE);
        }
        for (int bad : new int[] {41, -1, LEAST, GREATEST}) {
            asks(14, "no n " + bad, Checks::busy, x -> x.later(0, bad), NONE);
            asks(15, "no n " + bad, Checks::busy, x -> x.mood(0, bad), NONE);
            asks(16, "no n " + bad, Checks::busy, x -> x.purse(bad), NONE);
        }
        asks(14, "later", () -> of(SMALL), x -> x.later(1, 2), 0);
        asks(15, "mood", () -> of(SMALL), x -> x.mood(0, 40), 9);
        asks(16, "purse", () -> of(SMALL), x -> x.purse(40), 352);
        due(14, "no THINGS", of(blinds(1)).later(0, 0), NONE);
        due(15, "no BLIND", of(things(1)).mood(0, 0), NONE);
    }

    /** Ahead as by years(): each of all numbers of YEARS. */
    private static void p14to16asTheyCome() {
        for (int n = 1; n <= 40; n++) {
            BlindColours ahead = busy();
            BlindColours gone = busy();
            gone.years(n);
            for (int i = 0; i < 3; i++) {
                due(14, "thing " + i + " behind " + n, ahead.later(i, n), gone.thing(i, 3));
                due(15, "mood " + i + " behind " + n, ahead.mood(i, n), gone.blind(i, 4));
            }
            due(16, "purse behind " + n, ahead.purse(n), gone.has(4));
        }
    }

    /** "0 .. 99 (below is 0, above 99), 9999 at most". */
    private static void p16whatComesIn() {
        String[] gives = {"0", "1", "98", "99", "100", "101", "9999*9999", "0-1", "0-99", "0-9999*9999", "year", "purse", "bare"};
        int[] want = {0, 1, 98, 99, 99, 99, 99, 0, 0, 0, 0, 3, 2};
        for (int i = 0; i < gives.length; i++) {
            due(16, "gives " + gives[i], of("purse 3;" + things(2) + "gives " + gives[i] + ";").purse(1), 3 + want[i]);
        }
        due(16, "without gives", of("purse 3;").purse(1), 12);
        int[][] full = {{9990, 9999}, {9989, 9998}, {9991, 9999}, {9999, 9999}};
        for (int[] f : full) {
            due(16, "9 to " + f[0], at("", 0, f[0]).purse(1), f[1]);
        }
        for (int purse : new int[] {9899, 9900, 9901, 9999}) {
            due(16, "99 to " + purse, at("gives 99;", 0, purse).purse(1), Math.min(9999, purse + 99));
        }
        due(16, "what is above is lost ahead of what is paid", at(blinds(1) + "colour c warm 0 loud 0 deep 0 cost 99;" + things(1), 0, 9999).purse(1), 9900);
        due(16, "by the year of now", at("gives year;", 50, 0).purse(2), 101);
    }

    /** "if it costs no more than is in the purse, and the THING does not wear it". */
    private static void p14whatIsPaid() {
        for (int cost : new int[] {0, 1, 20, 21, 22, 99}) {
            BlindColours x = of(blinds(1) + "colour c warm 0 loud 0 deep 0 cost " + cost + ";" + things(1) + "purse 20;gives 1;");
            boolean paid = cost <= 21;
            due(14, "cost " + cost + " of 21", x.later(0, 1), paid ? 0 : NONE);
            due(16, "cost " + cost + " of 21", x.purse(1), paid ? 21 - cost : 21);
            due(15, "a CHOICE, paid or not", x.mood(0, 1), 6);
        }
        BlindColours worn = of(blinds(1) + "colour c warm 0 loud 0 deep 0 cost 3;" + things(1) + "wears m c;");
        due(16, "it wears it: nothing is paid", worn.purse(1), 9);
        due(15, "it wears it: a CHOICE", worn.mood(0, 1), 6);
        due(25, "it wears it: not PAINTED", worn.years(1), 0);
        BlindColours other = of(blinds(1) + colours(1) + "colour c warm 0 loud 0 deep 0 cost 3;" + things(1) + "wears m c;");
        due(14, "it wears another one", other.later(0, 1), 0);
    }

    /** "the one of number YEAR modulo how many there are is asked for". */
    private static void p14whichThing() {
        for (int many = 1; many <= 6; many++) {
            for (int year : new int[] {0, 1, 5, 6, 7, 500, 959}) {
                BlindColours x = at(blinds(1) + colours(1) + things(many), year, 0);
                for (int t = 0; t < many; t++) {
                    due(14, many + " THINGS, year " + year, x.later(t, 1), t == year % many ? 0 : NONE);
                }
            }
        }
    }

    // ---- promises 17 to 19

    private static void p17orders() {
        for (int many = 1; many <= 6; many++) {
            BlindColours x = of(blinds(many) + colours(2) + things(1));
            int all = 1;
            for (int k = 0; k < many; k++) {
                all *= k + 1;
                due(17, "the least of " + many, x.order(0, 0, k), k);
                due(17, "no ORDER", x.order(0, 1, k), NONE);
            }
            due(17, "no place " + many, x.order(0, 0, many), NONE);
            due(18, "all ORDERS of " + many, x.orders(0, 0), all);
            due(18, "none", x.orders(0, 1), 0);
        }
    }

    /** a, b say h, if they hear no g, c says g; who hears g says g. */
    private static void p17theFirstOfThem() {
        BlindColours x = of("blind a warm 1 loud 0 deep 0;blind b warm 2 loud 0 deep 0;blind c warm 3 loud 0 deep 0;"
                + "colour g warm 9 loud 0 deep 0 cost 0;colour h warm 0 loud 0 deep 0 cost 0;thing t warm 9 loud 0 deep 0;"
                + "scores if(match>0,if(heard=0,if(match=27,5,0),9),3);");
        // a b c: h h g; a c b: h g g; b a c: h h g; b c a: h g g; c a b, c b a: g g g.
        int[][] want = {{0, 2, 1}, {0, 1, 2}};
        for (int k = 0; k < 3; k++) {
            due(17, "g by a c b", x.order(0, 0, k), want[0][k]);
            due(17, "h by a b c", x.order(0, 1, k), want[1][k]);
        }
        due(18, "g by four", x.orders(0, 0), 4);
        due(18, "h by two", x.orders(0, 1), 2);
    }

    /** Of f's COLOUR are more only if he is first and all others hear him. */
    private static void p17farAmongThem() {
        BlindColours x = of("blind a warm 1 loud 0 deep 0;blind b warm 1 loud 0 deep 0;blind c warm 1 loud 0 deep 0;"
                + "blind d warm 1 loud 0 deep 0;blind e warm 1 loud 0 deep 0;blind f warm 0 loud 1 deep 0;"
                + "colour r warm 9 loud 0 deep 0 cost 0;colour g warm 0 loud 9 deep 0 cost 0;thing t warm 9 loud 9 deep 0;"
                + "scores match + heard * 10;");
        int[] first = {5, 0, 1, 2, 3, 4};
        for (int k = 0; k < 6; k++) {
            due(17, "f, then the others", x.order(0, 1, k), first[k]);
        }
        due(18, "f first", x.orders(0, 1), 120);
        due(18, "another one first", x.orders(0, 0), 600);
        x.swap(0, 5);
        due(17, "whatever the ORDER of now is", x.order(0, 0, 5), 5);
        due(18, "whatever the ORDER of now is", x.orders(0, 0), 600);
    }

    /** "the CHOICE for it is that, now": by the YEAR, the MOODS and what is worn now. */
    private static void p17to21now() {
        BlindColours x = of(blinds(2) + colours(2) + things(1) + "scores if(year<1,0-cost,worn);" + "counts year<2;");
        due(18, "in year 0: g", x.orders(0, 0), 2);
        due(21, "in year 0: g", x.odds(0), 200);
        due(19, "in year 0", x.power(0, 0), 1);
        x.years(1);
        x.paint(0, 1);
        due(18, "in year 1: what is worn, h", x.orders(0, 1), 2);
        due(17, "in year 1: h", x.order(0, 1, 1), 1);
        due(17, "in year 1: not g", x.order(0, 0, 1), NONE);
        due(21, "in year 1: h", x.odds(1), 200);
        due(19, "in year 1", x.power(0, 0), 1);
        x.years(1);
        due(18, "in year 2 none COUNTS", x.orders(0, 1), 0);
        due(17, "in year 2 none COUNTS", x.order(0, 1, 1), NONE);
        due(21, "in year 2 none COUNTS", x.odds(1), 0);
        due(19, "in year 2 none COUNTS", x.power(0, 0), 0);
        BlindColours moody = of(blinds(1) + colours(1) + things(1) + "counts mood<6;");
        due(18, "his MOOD is 5", moody.orders(0, 0), 1);
        moody.years(1);
        due(18, "his MOOD is 6", moody.orders(0, 0), 0);
        due(13, "his MOOD is 6", moody.choice(0, 0), NONE);
    }

    private static void p17noneSuch() {
        for (int bad : new int[] {3, 4, 6, -1, -2, LEAST, GREATEST}) {
            asks(17, "no THING " + bad, Checks::busy, x -> x.order(bad, 0, 0), NONE);
            asks(17, "no place " + bad, Checks::busy, x -> x.order(0, 0, bad), NONE);
            asks(18, "no THING " + bad, Checks::busy, x -> x.orders(bad, 0), NONE);
            asks(19, "nobody " + bad, Checks::busy, x -> x.power(bad, 0), NONE);
            asks(19, "no THING " + bad, Checks::busy, x -> x.power(0, bad), NONE);
        }
        for (int bad : new int[] {2, 3, 6, -1, -2, LEAST, GREATEST}) {
            asks(17, "no COLOUR " + bad, Checks::busy, x -> x.order(0, bad, 0), NONE);
            asks(18, "no COLOUR " + bad, Checks::busy, x -> x.orders(0, bad), NONE);
        }
        BlindColours nobody = of(colours(1) + things(1));
        due(17, "no BLIND", nobody.order(0, 0, 0), NONE);
        due(18, "no BLIND: no CHOICE by the one ORDER of none", nobody.orders(0, 0), 0);
        due(19, "no BLIND", nobody.power(0, 0), NONE);
        BlindColours bare = of(blinds(1) + things(1));
        due(17, "no COLOURS", bare.order(0, 0, 0), NONE);
        due(18, "no COLOURS", bare.orders(0, 0), NONE);
        due(19, "no COLOURS: never a CHOICE, so never another one", bare.power(0, 0), 0);
        BlindColours none = of(blinds(1) + colours(1) + things(1) + "counts not all;");
        due(17, "none COUNTS", none.order(0, 0, 0), NONE);
        due(18, "none COUNTS", none.orders(0, 0), 0);
        due(19, "none COUNTS", none.power(0, 0), 0);
    }

    private static void p19power() {
        for (int many = 1; many <= 6; many++) {
            char last = (char) ('a' + many - 1);
            BlindColours x = of(blinds(many) + "late " + last + ";" + colours(1) + things(1) + "counts late=1;");
            due(19, "he alone COUNTS: of all sets", x.power(many - 1, 0), 1 << (many - 1));
            if (many > 1) {
                due(19, "he does not COUNT", x.power(0, 0), 0);
            }
            BlindColours like = of(blinds(many) + colours(1) + things(1));
            due(19, "all say one: of the empty set alone", like.power(0, 0), 1);
        }
    }

    // ---- promise 20

    private static void p20fewest() {
        due(20, "no THINGS", of(colours(3)).clear(), 0);
        due(20, "no COLOURS", of(things(6) + allNear(6)).clear(), 0);
        due(20, "none worn", of(colours(2) + things(6) + allNear(6)).clear(), 0);
        due(20, "not NEAR", of(colours(1) + things(6) + allWear(6, 'g')).clear(), 0);
        String six = things(6) + allNear(6) + allWear(6, 'g');
        due(20, "six COLOURS: all but one, the least bits", of(colours(6) + six).clear(), 31);
        due(20, "five COLOURS for six", of(colours(5) + six).clear(), NONE);
        due(20, "one COLOUR for two", of(colours(1) + things(2) + allNear(2) + allWear(2, 'g')).clear(), NONE);
        due(20, "two COLOURS for two", of(colours(2) + things(2) + allNear(2) + allWear(2, 'g')).clear(), 1);
        BlindColours x = of(colours(5) + six);
        x.paint(0, NONE);
        due(20, "one wears none and stays so: five for five", x.clear(), 2 + 4 + 8 + 16);
        x.paint(5, NONE);
        due(20, "two wear none", x.clear(), 2 + 4 + 8);
    }

    private static void p20leastBits() {
        String things = colours(2) + things(6);
        due(20, "n and o: n", of(things + "near n o;wears n g;wears o g;").clear(), 2);
        due(20, "q and r: q", of(things + "near r q;wears q h;wears r h;").clear(), 16);
        due(20, "two pairs", of(things + "near m r;near n q;wears m g;wears n g;wears q g;wears r g;").clear(), 3);
        // m is NEAR n, o, p, all of g: m alone.
        due(20, "one for three", of(things + "near m n;near m o;near m p;wears m g;wears n g;wears o g;wears p g;").clear(), 1);
        // r alone is one for three, though m has less bits.
        due(20, "one with greater bits, not three", of(things + "near r n;near r o;near r m;wears r g;wears n g;wears o g;wears m g;").clear(), 32);
        // m could not become h, as o wears it.
        due(20, "the one that has another COLOUR", of(things + "near m n;near m o;wears m g;wears n g;wears o h;").clear(), 2);
        // q (of h) is NEAR both m and n, so that one of these needs q as well.
        due(20, "two, the least bits", of(things + "near m n;near q m;near q n;wears m g;wears n g;wears q h;").clear(), NONE);
    }

    private static void p20asks() {
        asks(20, "clear()", () -> of(colours(2) + things(3) + allNear(2) + allWear(3, 'g')), BlindColours::clear, 1);
        asks(20, "clear() of none", BlindColours::new, BlindColours::clear, 0);
    }

    // ---- promise 21

    private static void p21rows() {
        for (int row : new int[] {0, 1, 50, 99, 100}) {
            for (int many = 1; many <= 6; many++) {
                BlindColours x = of(blinds(many) + colours(2) + things(1) + "row " + row + ";");
                due(21, "all rows", x.odds(NONE), 100 * many);
                due(21, "one alone is silent by row", x.odds(0), many == 1 ? 100 - row : 100 * many);
                due(21, "never", x.odds(1), 0);
            }
        }
        due(21, "without row", of(blinds(2) + colours(2) + things(1)).odds(0), 200);
    }

    private static void p21none() {
        for (int colour : new int[] {NONE, 0}) {
            due(21, "without BLIND", of(colours(1) + things(1)).odds(colour), NONE);
            due(21, "without THINGS", of(colours(1) + blinds(1)).odds(colour), NONE);
            due(21, "in year 999", at(SMALL, 999, 0).odds(colour), NONE);
        }
        due(21, "in year 998", at(SMALL, 998, 0).odds(NONE), 100);
        due(21, "in year 998", at(SMALL, 998, 0).odds(1), 100);
        due(21, "without COLOURS, all rows", of(blinds(2) + things(1)).odds(NONE), 200);
        due(21, "without COLOURS", of(blinds(2) + things(1)).odds(0), NONE);
        for (int bad : new int[] {2, 3, 6, -2, LEAST, GREATEST}) {
            asks(21, "no COLOUR " + bad, Checks::busy, x -> x.odds(bad), NONE);
        }
        asks(21, "all rows", Checks::busy, x -> x.odds(NONE), 300);
        due(21, "none COUNTS", of(SMALL + "counts not all;").odds(1), 0);
    }

    private static void p21theNextYear() {
        BlindColours x = of(SMALL);
        due(21, "year 0, t: g", x.odds(1), 100);
        x.years(1);
        due(21, "year 1, u: r", x.odds(0), 100);
        due(21, "year 1, u: not g", x.odds(1), 0);
        x.years(1);
        due(21, "year 2, t again", x.odds(1), 100);
        BlindColours y = of(TALK + "row 100;");
        y.swap(0, 1);
        // Without x or z: b; without y: x says r, z g (81 against 50): of r and g the first.
        due(21, "in the ORDER of now", y.odds(1), 200);
        due(21, "in the ORDER of now", y.odds(0), 100);
        // Of all, y first: b.
        BlindColours z = of(TALK + "row 30;");
        z.swap(0, 1);
        due(21, "in the ORDER of now, no quarrel in 70 rows of each", z.odds(1), 210 + 60);
        due(21, "in the ORDER of now, without y", z.odds(0), 30);
    }

    // ---- promise 22

    private static void p22rows() {
        int[][] good = {{0, 0, 0}, {30, 0, 0}, {0, 2, 0}, {0, 0, 1}, {0, 0, 255}, {30, 2, 255}, {0, 0, 0, 30, 2, 1}, new int[48]};
        for (int[] rows : good) {
            BlindColours x = busy();
            x.end(0);
            due(22, java.util.Arrays.toString(rows), meet(x, rows), rows.length / 3);
            due(22, "rows MET", x.has(8), rows.length / 3);
            due(22, "the tape goes", x.end(1), false);
            due(22, "nothing refused", x.status(5), 0);
            due(22, "no ACT", x.has(9), 6);
        }
    }

    private static void p22refused() {
        int[][] bad = {{}, {0}, {0, 0}, {0, 0, 0, 0}, {0, 0, 0, 0, 0}, new int[47], new int[49], new int[50], new int[51], new int[1600], new int[1599],
            {31, 0, 0}, {32, 0, 0}, {255, 0, 0}, {128, 0, 0}, {0, 3, 0}, {0, 6, 0}, {0, 128, 0}, {0, 255, 0}, {0, 0, 2}, {0, 0, 6}, {0, 0, 128},
            {0, 0, 254}, {31, 3, 2}, {0, 0, 0, 31, 0, 0}, {0, 0, 0, 0, 3, 0}, {0, 0, 0, 0, 0, 2}, {31, 0, 0, 0, 0, 0}};
        for (int[] rows : bad) {
            refused(22, "meet " + java.util.Arrays.toString(rows), Checks::busy, x -> {
                x.end(0);
                return meet(x, rows);
            }, NONE, 5, true);
        }
        for (int i = 0; i < 16; i++) {
            int[] rows = new int[48];
            rows[3 * i] = 31;
            due(22, "row " + i + " is none", meet(busyWithoutATape(), rows), NONE);
        }
    }

    private static BlindColours busyWithoutATape() {
        BlindColours x = busy();
        x.end(0);
        return x;
    }

    private static void p22withoutThem() {
        refused(22, "no LAND", BlindColours::new, x -> meet(x, 0, 0, 255), NONE, 5, true);
        refused(22, "no THINGS", () -> of(blinds(1) + colours(1)), x -> meet(x, 0, 0, 0), NONE, 5, true);
        refused(22, "no COLOURS", () -> of(blinds(1) + things(1)), x -> meet(x, 0, 0, 0), NONE, 5, true);
        due(22, "no COLOURS, none worn", meet(of(blinds(1) + things(1)), 0, 0, 255), 1);
        due(22, "no BLIND", meet(of(colours(1) + things(1)), 0, 0, 0), 1);
        due(22, "six of each", meet(of(colours(6) + things(6)), 0, 5, 5), 1);
        due(22, "not a seventh", meet(of(colours(6) + things(6)), 0, 6, 5), NONE);
        due(22, "not a seventh", meet(of(colours(6) + things(6)), 0, 5, 6), NONE);
    }

    // ---- promise 23

    private static void p23all() {
        for (int many = 1; many <= 6; many++) {
            BlindColours x = of(blinds(many) + things(1) + colours(1));
            due(23, "none MET: all ten", x.tastes(many - 1), 1023);
            due(23, "nobody", x.tastes(many), NONE);
        }
        for (int bad : new int[] {3, 4, 6, -1, -2, LEAST, GREATEST}) {
            asks(23, "nobody " + bad, Checks::busy, x -> x.tastes(bad), NONE);
        }
        due(23, "none MET, in year 999", at(SMALL, 999, 0).tastes(0), 1023);
        due(23, "none MET, without THINGS", of(blinds(1)).tastes(0), 1023);
        asks(23, "tastes", () -> {
            BlindColours x = of(becomes(4));
            meet(x, 1, 0, 0);
            return x;
        }, x -> x.tastes(0), 1023 - 15);
    }

    private static void p23eachTaste() {
        for (int k = 0; k <= 9; k++) {
            BlindColours x = of(becomes(k));
            int below = (1 << k) - 1;
            meet(x, 1, 0, 0);
            due(23, "g from " + k + " on", x.tastes(0), 1023 - below);
            meet(x, 1, 0, 1);
            due(23, "r below " + k, x.tastes(0), below);
            meet(x, 1, 0, 255);
            due(23, "nothing by none", x.tastes(0), 0);
            meet(x, 0, 0, 255);
            due(23, "nothing yet by all", x.tastes(0), 1023);
        }
    }

    private static void p23yearsAhead() {
        String late = becomes(5).replace("thing t", "scores if(year<@,0,match);thing t");
        // g by all up to the YEAR, then r by those below 5.
        BlindColours x = of(late.replace("@", "29"));
        meet(x, 29, 0, 0);
        due(23, "behind 29 YEARS all g", x.tastes(0), 1023);
        meet(x, 30, 0, 0);
        due(23, "behind 30 by those from 5 on", x.tastes(0), 1023 - 31);
        meet(x, 30, 0, 1);
        due(23, "behind 30 by those below 5", x.tastes(0), 31);
        BlindColours now = of(becomes(5));
        meet(now, 0, 0, 1);
        due(23, "not so now", now.tastes(0), 0);
        now.paint(0, 1);
        due(23, "so now", now.tastes(0), 1023);
    }

    /** "YEARS beyond 999 are by none". */
    private static void p23beyond999() {
        for (int n : new int[] {0, 1, 2, 29, 30}) {
            for (int year = 998 - n; year <= 1001 - n && year <= 999; year++) {
                BlindColours x = at(becomes(0), year, 0);
                meet(x, n, 0, n == 0 ? 255 : 0);
                due(23, n + " YEARS from year " + year, x.tastes(0), year + n <= 999 ? 1023 : 0);
            }
        }
        BlindColours x = at(becomes(0), 995, 0);
        meet(x, 1, 0, 0, 5, 0, 0, 2, 0, 0);
        due(23, "one row of three is beyond", x.tastes(0), 0);
        meet(x, 1, 0, 0, 4, 0, 0, 2, 0, 0);
        due(23, "none of three is", x.tastes(0), 1023);
    }

    private static void p23eachRow() {
        int[][] rows = {{1, 0, 0, 0, 0, 255}, {0, 0, 255, 1, 0, 0}, {1, 0, 0, 0, 0, 255, 1, 0, 0}, {0, 0, 255, 0, 0, 255, 1, 0, 0, 2, 0, 0}};
        for (int[] r : rows) {
            BlindColours x = of(becomes(4) + "row 100;");
            meet(x, r);
            due(23, "all rows hold from 4 on, none without DRAWS", x.tastes(0), 1023 - 15);
        }
        int[][] never = {{1, 0, 0, 0, 0, 0}, {1, 0, 0, 1, 0, 1}, {1, 0, 0, 1, 0, 255}, {1, 0, 255, 1, 0, 0}, {1, 0, 0, 2, 0, 1}, {1, 0, 0, 0, 0, 255, 2, 0, 255}};
        for (int[] r : never) {
            BlindColours x = of(becomes(4));
            meet(x, r);
            due(23, "one row does not hold", x.tastes(0), 0);
        }
        int[] sixteen = new int[48];
        for (int i = 0; i < 16; i++) {
            sixteen[3 * i + 2] = 255;
        }
        sixteen[45] = 1;
        sixteen[47] = 0;
        BlindColours x = of(becomes(4));
        meet(x, sixteen);
        due(23, "the sixteenth row", x.tastes(0), 1023 - 15);
    }

    /** Of the others each keeps his own TASTES, and so does he behind it. */
    private static void p23hisAlone() {
        // a says g, b by his own TASTE r (for warm 0, loud 4); of like ones the first: g. Then a alone tells nothing, nor does b.
        String two = "blind a warm 9 loud 4 deep 0;blind b warm 0 loud 4 deep 0;" + becomes(4).substring(becomes(4).indexOf("colour"));
        BlindColours x = of(two);
        due(23, "none MET", x.tastes(0), 1023);
        meet(x, 1, 0, 1);
        due(23, "r, if a says it as well: below 4", x.tastes(0), 15);
        due(23, "r is never said by both, if a says g", x.tastes(1), 0);
        due(8, "his own TASTE", x.blind(0, 0), 9);
        due(12, "his own WORD", x.word(0, 0), 0);
        due(11, "his own SCORE", x.score(0, 0, 0), 81);
        due(13, "the CHOICE", x.choice(0, 0), 0);
        due(14, "ahead", x.later(0, 1), 0);
        x.tells(0, 0);
        due(11, "his own SCORE", x.score(0, 0, 0), 81);
        due(14, "ahead", x.later(0, 1), 0);
        due(25, "a YEAR", x.years(1), 1);
        due(10, "g", x.thing(0, 3), 0);
    }

    private static void p23theLatestOfThisLand() {
        BlindColours x = of(becomes(3));
        meet(x, 1, 0, 0);
        meet(x, 1, 0, 1);
        due(23, "the latest alone", x.tastes(0), 7);
        meet(x, 1, 0, 2);
        due(23, "not the one that was refused", x.tastes(0), 7);
        tell(x, "late");
        due(23, "nor by a LAND that is none", x.tastes(0), 7);
        tell(x, becomes(3));
        due(23, "another LAND, told alike", x.tastes(0), 1023);
        int[] many = new int[48];
        for (int i = 0; i < 16; i++) {
            many[3 * i] = i + 1;
        }
        meet(x, many);
        due(23, "sixteen rows", x.tastes(0), 1023 - 7);
        many[47] = 1;
        meet(x, many);
        due(23, "the sixteenth is another one", x.tastes(0), 0);
    }

    // ---- promise 24

    private static void p24none() {
        for (int bad : new int[] {3, 4, 6, -1, -2, LEAST, GREATEST}) {
            for (int what = -1; what <= 3; what++) {
                due(24, "nobody " + bad, busy().tells(bad, what), NONE);
            }
            asks(24, "nobody " + bad, Checks::busy, x -> x.tells(bad, 0), NONE);
        }
        for (int bad : new int[] {3, 4, -1, LEAST, GREATEST}) {
            due(24, "no what " + bad, of(becomes(5)).tells(0, bad), NONE);
        }
        for (int what = 0; what < 3; what++) {
            due(24, "without THINGS", of(blinds(1) + colours(1)).tells(0, what), NONE);
            due(24, "no YEAR comes", at(becomes(5), 999, 0).tells(0, what), NONE);
            BlindColours x = of(becomes(5));
            meet(x, 0, 0, 0);
            due(24, "without any left", x.tells(0, what), NONE);
        }
        due(24, "without COLOURS there is one: nothing by all", of(blinds(1) + things(1)).tells(0, 2), 10);
        asks(24, "tells", () -> of(becomes(4)), x -> x.tells(0, 2), 6);
    }

    private static void p24atTheMost() {
        for (int k = 0; k <= 9; k++) {
            BlindColours x = of(becomes(k));
            due(24, "the first YEAR", x.tells(0, 0), 1);
            due(24, "the THING", x.tells(0, 1), 0);
            due(24, "the greater part", x.tells(0, 2), Math.max(k, 10 - k));
        }
        BlindColours x = of(becomes(9));
        meet(x, 1, 0, 0);
        due(24, "one left", x.tells(0, 2), 1);
        due(24, "of like ones the first YEAR", x.tells(0, 0), 1);
        // s comes first: r (9 w) against g (9 k): r above k; t comes then: g from k on.
        int[][] want = {{1, 0, 5}, {2, 1, 5}};
        for (int k = 4; k <= 5; k++) {
            BlindColours y = of(becomes(k).replace("thing t", "thing s warm 0 loud 9 deep 0;thing t"));
            for (int what = 0; what < 3; what++) {
                due(24, "s and t, what " + what + " by " + k, y.tells(0, what), want[k - 4][what]);
            }
        }
        BlindColours like = of(becomes(5) + "thing u warm 9 loud 0 deep 0;");
        due(24, "u is as t, a YEAR behind: the first YEAR", like.tells(0, 0), 1);
        due(24, "u is as t, a YEAR behind: t", like.tells(0, 1), 0);
        BlindColours none = of(blinds(1) + colours(1) + things(3));
        due(24, "all are alike: the first YEAR", none.tells(0, 0), 1);
        due(24, "all are alike: the first THING", none.tells(0, 1), 0);
    }

    private static void p24yearsThatCome() {
        String late = becomes(5).replace("thing t", "scores if(year<@,0,match);thing t");
        for (int year : new int[] {0, 1, 28, 29}) {
            due(24, "behind " + (year + 1), of(late.replace("@", "" + year)).tells(0, 0), year + 1);
            due(24, "five by five", of(late.replace("@", "" + year)).tells(0, 2), 5);
        }
        due(24, "not behind 31", of(late.replace("@", "30")).tells(0, 0), 1);
        due(24, "all alike", of(late.replace("@", "30")).tells(0, 2), 10);
        // From year 990 on nine YEARS come: the last of them is 998.
        due(24, "the last that comes", at(late.replace("@", "998"), 990, 0).tells(0, 0), 9);
        due(24, "five by five", at(late.replace("@", "998"), 990, 0).tells(0, 2), 5);
        due(24, "that one comes no more", at(late.replace("@", "999"), 990, 0).tells(0, 0), 1);
        due(24, "all alike", at(late.replace("@", "999"), 990, 0).tells(0, 2), 10);
        due(24, "the one that comes", at(late.replace("@", "998"), 998, 0).tells(0, 2), 5);
    }

    /** r below or at 3, else g, which is the last of six COLOURS; the others nobody says. */
    private static final String SIX = "blind a warm 0 loud 3 deep 0;colour r warm 0 loud 0 deep 0 cost 0;colour b warm 0 loud 9 deep 0 cost 0;"
            + "colour c warm 0 loud 9 deep 0 cost 0;colour d warm 0 loud 9 deep 0 cost 0;colour e warm 0 loud 9 deep 0 cost 0;"
            + "colour g warm 9 loud 9 deep 0 cost 0;";

    private static void p24sixOfEach() {
        for (int many = 1; many <= 6; many++) {
            StringBuilder text = new StringBuilder(SIX);
            for (int i = 0; i < many; i++) {
                text.append("thing ").append((char) ('t' + i)).append(" warm 9 loud 0 deep 0;");
            }
            BlindColours x = of(text.toString());
            int[] want = {1, 0, 6};
            for (int what = 0; what < 3; what++) {
                due(24, "six COLOURS, " + many + " THINGS, what " + what, x.tells(0, what), want[what]);
            }
            meet(x, many, many - 1, 5);
            due(23, "the last THING wears the last COLOUR", x.tastes(0), 1023 - 15);
            due(24, "nothing more to tell", x.tells(0, 2), 6);
            meet(x, many, many - 1, 0);
            due(23, "the last THING wears the first COLOUR", x.tastes(0), 15);
            due(24, "nothing more to tell", x.tells(0, 2), 4);
        }
        // The last THING alone tells, in the last YEAR of 30: its number is 29 modulo 6 = 5.
        BlindColours last = of(SIX + "thing m warm 0 loud 0 deep 0;thing n warm 0 loud 0 deep 0;"
                + "thing o warm 0 loud 0 deep 0;thing p warm 0 loud 0 deep 0;thing q warm 0 loud 0 deep 0;thing s warm 9 loud 0 deep 0;"
                + "scores if(year<29,0-cost,match);");
        int[] want = {30, 5, 6};
        for (int what = 0; what < 3; what++) {
            due(24, "the last YEAR, the last THING, what " + what, last.tells(0, what), want[what]);
        }
    }

    /** What was told of an object ahead does not stay, be it more or less. */
    private static void p24again() {
        BlindColours x = of(becomes(5));
        due(24, "five by five", x.tells(0, 2), 5);
        tell(x, blinds(1) + colours(1) + things(2));
        due(24, "all alike", x.tells(0, 2), 10);
        due(24, "the first YEAR", x.tells(0, 0), 1);
        due(24, "the first THING", x.tells(0, 1), 0);
        tell(x, becomes(8).replace("thing t", "thing s warm 0 loud 0 deep 0;thing t"));
        due(24, "eight and two", x.tells(0, 2), 8);
        due(24, "in the second YEAR", x.tells(0, 0), 2);
        due(24, "t", x.tells(0, 1), 1);
        for (int what = 0; what < 3; what++) {
            tell(x, blinds(1) + colours(1));
            due(24, "without THINGS", x.tells(0, what), NONE);
            tell(x, becomes(5));
            on(x, 3, 231, 0, 0, 0, 5, 255);
            due(24, "no YEAR comes", x.tells(0, what), NONE);
            on(x, 3, 230, 0, 0, 0, 5, 255);
            due(24, "one YEAR comes", x.tells(0, what), new int[] {1, 0, 5}[what]);
            meet(x, 0, 0, 1);
            due(24, "none left", x.tells(0, what), NONE);
        }
    }

    /** "by what it wears, whatever it is, or nothing". */
    private static void p24orNothing() {
        // g (cost 0) from 5 on; below r, which is too dear in year 0.
        BlindColours x = of(becomes(5).replace("colour r warm 0 loud 0 deep 0 cost 0", "colour r warm 0 loud 0 deep 0 cost 10"));
        due(24, "nothing by five", x.tells(0, 0), 1);
        due(24, "nothing by five", x.tells(0, 2), 5);
    }

    // ---- what there is none of

    /** All that can be asked of the BLIND, a COLOUR, a THING, where the LAND has none of them. */
    private static void noneOfAKind() {
        for (int kind = 0; kind <= 3; kind++) {
            String text = (kind == 0 || kind == 3 ? "" : blinds(1)) + (kind == 1 || kind == 3 ? "" : colours(1))
                    + (kind == 2 || kind == 3 ? "" : things(1));
            BlindColours x = of(text);
            boolean blind = x.has(0) > 0;
            boolean colour = x.has(1) > 0;
            boolean thing = x.has(2) > 0;
            String what = text.isEmpty() ? "a LAND of nothing" : text;
            due(7, what, x.letter(0, 0, 0), blind ? 1 : NONE);
            due(7, what, x.letter(1, 0, 0), colour ? 7 : NONE);
            due(7, what, x.letter(2, 0, 0), thing ? 13 : NONE);
            due(8, what, x.blind(0, 6), blind ? 1 : NONE);
            due(9, what, x.colour(0, 4), colour ? 0 : NONE);
            due(10, what, x.thing(0, 4), thing ? 0 : NONE);
            due(11, what, x.score(0, 0, 0), NOTHING);
            due(12, what, x.word(0, 0), NONE);
            due(13, what, x.choice(0, 0), NONE);
            due(13, what, x.choice(0, 1), NONE);
            due(14, what, x.later(0, 40), NONE);
            due(15, what, x.mood(0, 40), blind ? 5 : NONE);
            due(16, what, x.purse(40), 360);
            due(17, what, x.order(0, 0, 0), NONE);
            due(18, what, x.orders(0, 0), colour && thing ? 0 : NONE);
            due(19, what, x.power(0, 0), blind && thing ? 0 : NONE);
            due(20, what, x.clear(), 0);
            due(21, what, x.odds(0), NONE);
            due(21, what, x.odds(NONE), blind && thing ? 100 : NONE);
            due(23, what, x.tastes(0), blind ? 1023 : NONE);
            due(24, what, x.tells(0, 2), blind && thing ? 10 : NONE);
            due(22, what, meet(x, 0, 0, 255), thing ? 1 : NONE);
            due(27, what, x.paint(0, 0), colour && thing);
            due(28, what, x.swap(0, 1), false);
            due(29, what, x.fill(7), true);
            due(25, what, x.years(2), 0);
            due(26, what, x.chance(2), 0);
            due(32, what, x.kept(0, 0), NONE);
            due(33, what, x.image(), 5 + (blind ? 2 : 0) + (thing ? 1 : 0));
            due(30, what, x.undo(), true);
        }
    }

    // ---- asking changes nothing

    private static void askingChangesNothing() {
        int[] promises = {6, 7, 8, 8, 9, 10, 11, 12, 13, 13, 14, 15, 16, 17, 18, 19, 20, 21, 21, 23, 23, 24, 24, 32, 34, 36, 5};
        Call[] calls = {x -> x.has(4), x -> x.letter(1, 1, 2), x -> x.blind(1, 6), x -> x.blind(2, 5), x -> x.colour(1, 4), x -> x.thing(2, 4),
            x -> x.score(0, 1, 1), x -> x.word(2, 2), x -> x.choice(1, 0), x -> x.choice(0, 1), x -> x.later(0, 40), x -> x.mood(2, 40),
            x -> x.purse(40), x -> x.order(1, 1, 2), x -> x.orders(2, 1), x -> x.power(1, 1), BlindColours::clear, x -> x.odds(0),
            x -> x.odds(NONE), x -> x.tastes(0), x -> x.tastes(2), x -> x.tells(0, 2), x -> x.tells(2, 0), x -> x.kept(3, 2), x -> x.octet(4),
            x -> x.status(1), x -> x.fault(1)};
        for (int i = 0; i < calls.length; i++) {
            asks(promises[i], "asked, " + i, Checks::busy, calls[i], calls[i].of(busy()));
        }
    }

    public static void main(String[] args) {
        p6none();
        p6howManyThereAre();
        p6yearAndPurse();
        p6wearNoneAndClashes();
        p6keptAndActs();
        p6metAndSeed();
        p7letters();
        p7shortAndLong();
        p7noneSuch();
        p8whoIsThere();
        p8moodsFrom0To9();
        p8placeInTheOrder();
        p8whetherHisWordCounts();
        p9colours();
        p10things();
        p10theLastOneCounts();
        p11tenToTheSix();
        p11overAndLeft();
        p11fromTheLeft();
        p11facts();
        p11whatCanBeAsked();
        p11noneSuch();
        p12words();
        p12nothingBeingHeard();
        p13choices();
        p13none();
        p13whoseWordCounts();
        p14to16howFar();
        p14to16now();
        p14to16withoutDraws();
        p14to16asAsked();
        p14to16asTheyCome();
        p16whatComesIn();
        p14whatIsPaid();
        p14whichThing();
        p17orders();
        p17theFirstOfThem();
        p17farAmongThem();
        p17to21now();
        p17noneSuch();
        p19power();
        p20fewest();
        p20leastBits();
        p20asks();
        p21rows();
        p21none();
        p21theNextYear();
        p22rows();
        p22refused();
        p22withoutThem();
        p23all();
        p23eachTaste();
        p23yearsAhead();
        p23beyond999();
        p23eachRow();
        p23hisAlone();
        p23theLatestOfThisLand();
        p24none();
        p24atTheMost();
        p24yearsThatCome();
        p24sixOfEach();
        p24again();
        p24orNothing();
        noneOfAKind();
        askingChangesNothing();
        finish();
    }
}
