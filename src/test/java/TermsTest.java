/** The document's Terms, sentence by sentence in their order: what each one says, by a call and its answer. */
public final class TermsTest extends Checks {
    private static final String ANN = "blind ann warm 1 loud 2 deep 3;";
    private static final String BOB = "blind bob warm 0 loud 0 deep 1;";
    private static final String RED = "colour red warm 4 loud 5 deep 6 cost 7;";
    private static final String DOOR = "thing door warm 5 loud 3 deep 9;";
    private static final String GATE = "thing gate warm 0 loud 0 deep 0;";
    private static final String EACH = ANN + RED + DOOR + GATE;

    // Hearing the one ahead of him, each says what that one said: green if ann is first, red if bob is.
    private static final String ECHO = "blind ann warm 1 loud 0 deep 0;" + BOB + "colour red warm 0 loud 0 deep 9 cost 5;"
            + "colour green warm 9 loud 0 deep 0 cost 3;thing door warm 9 loud 0 deep 9;thing gate warm 0 loud 0 deep 0;"
            + "near door gate;purse 2;row 50;scores match + heard * 20;";

    // The one THING is red, green, red, .. from year to year.
    private static final String TURNS = blinds(1) + colours(2) + things(1) + "scores 0 - worn;gives 0;";

    // ---- I, the STATEMENTS

    private static void aLandIsAText() {
        good(4, "", 0);
        good(4, "purse 5;", 1);
        faulty(4, "purse 5@", 1);
        good(4, "row 1;".repeat(60), 60);
        faulty(4, "row 1;".repeat(60) + "@row 1;", 6);
    }

    private static void blindColourThing() {
        for (String told : new String[] {"blind a warm 0 loud 9 deep 5", "thing a warm 0 loud 9 deep 5",
            "colour a warm 0 loud 9 deep 5 cost 0", "colour a warm 0 loud 9 deep 5 cost 99"}) {
            good(4, told + ";", 1);
        }
        faulty(5, "blind a warm @10 loud 0 deep 0;", 4);
        faulty(5, "thing a warm 0 loud @10 deep 0;", 4);
        faulty(5, "colour a warm 0 loud 0 deep @10 cost 0;", 4);
        faulty(5, "colour a warm 0 loud 0 deep 0 cost @100;", 4);
        faulty(5, "colour a warm 0 loud 0 deep 0@;", 1);
        faulty(5, "thing a warm 0 loud 0 deep 0 @cost 1;", 1);
        faulty(5, "blind a @loud 0 warm 0 deep 0;", 1);
        good(4, blinds(6) + colours(6) + things(6), 18);
        faulty(5, blinds(6) + "@blind x warm 0 loud 0 deep 0;", 6);
        faulty(5, colours(6) + "@colour x warm 0 loud 0 deep 0 cost 0;", 6);
        faulty(5, things(6) + "@thing x warm 0 loud 0 deep 0;", 6);
        BlindColours x = of(blinds(6));
        for (int i = 0; i < 6; i++) {
            due(8, "asked in the order told", x.blind(i, 5), i);
        }
    }

    private static void lateNearWears() {
        BlindColours x = of(EACH + BOB + "late bob;near gate door;wears door red;");
        due(8, "late NAME", x.blind(1, 3), 1);
        due(8, "the other one is not", x.blind(0, 3), 0);
        due(10, "near NAME NAME", x.thing(0, 4), 1);
        due(10, "of both", x.thing(1, 4), 1);
        due(10, "wears NAME NAME", x.thing(0, 3), 0);
        due(10, "the other one wears nothing", x.thing(1, 3), NONE);
        faulty(5, EACH + "late @red;", 3);
        faulty(5, EACH + "late ann;late @ann;", 3);
        faulty(5, EACH + "near door @door;", 3);
        faulty(5, EACH + "near door @ann;", 3);
        faulty(5, EACH + "near door gate;near gate @door;", 3);
        faulty(5, EACH + "near door gate;near door @gate;", 3);
        faulty(5, EACH + "wears @red door;", 3);
        faulty(5, EACH + "wears door @gate;", 3);
        due(10, "the last one counts", of(SMALL + "wears t r;wears t g;").thing(0, 3), 1);
    }

    private static void purseAndRow() {
        due(6, "purse 999", of("purse 999;").has(4), 999);
        due(6, "0 without", of("row 1;").has(4), 0);
        due(6, "the last one of each counts", of("purse 5;purse 999;purse 7;").has(4), 7);
        faulty(5, "purse @1000;", 4);
        faulty(5, "row @101;", 4);
        due(26, "row 100: always a quarrel", of(blinds(1) + "row 100;").chance(40), 40);
        due(26, "row 0 without: never", of(blinds(1)).chance(40), 0);
        due(26, "the last one of each counts", of(blinds(1) + "row 100;row 0;").chance(40), 0);
    }

    private static void oneEach() {
        good(4, "scores 1;counts all;gives 1;", 3);
        faulty(5, "scores 1;@scores 1;", 6);
        faulty(5, "counts all;@counts all;", 6);
        faulty(5, "gives 1;@gives 1;", 6);
    }

    // ---- I, SUM and TEST

    /** The SCORE by the sum in YEAR 3: ann is LATE, of MOOD 5; the MATCH is 40; the gate is red. */
    private static long worked(String sum) {
        BlindColours x = of(EACH + "late ann;wears gate red;scores " + sum + ";");
        on(x, 0, 3, 0, 0, 0, 5, 255, 0);
        return x.score(0, 0, 0);
    }

    private static void worked(String sum, long due) {
        due(11, sum, worked(sum), due);
    }

    private static void whereWhatCanBeAsked() {
        String[] words = {"year", "mood", "late", "match", "worn", "heard", "cost", "purse", "bare"};
        String[] where = {"sct", "sc", "sc", "s", "s", "s", "s", "t", "t"};
        for (int i = 0; i < words.length; i++) {
            asked("scores @" + words[i] + ";", where[i].indexOf('s') >= 0);
            asked("counts @" + words[i] + " = 1;", where[i].indexOf('c') >= 0);
            asked("gives @" + words[i] + ";", where[i].indexOf('t') >= 0);
        }
    }

    private static void asked(String text, boolean can) {
        if (can) {
            good(5, text.replace("@", ""), 1);
        } else {
            faulty(5, text, 1);
        }
    }

    private static void whatIsAsked() {
        worked("year", 3);
        worked("mood", 5);
        worked("late", 1);
        worked("match", 1 * (9 - 1) + 2 * (9 - 2) + 3 * (9 - 3));
        worked("worn", 1);
        worked("heard", 0);
        worked("cost", 7);
        due(11, "late: 1 if he is LATE, else 0", of(EACH + "scores late;").score(0, 0, 0), 0);
        due(16, "the purse", of("purse 40;gives purse;").purse(1), 80);
        due(16, "how many THINGS wear none", of(EACH + "wears door red;gives bare * 3;").purse(1), 3);
        due(16, "the YEAR", of("gives year * 10;").purse(3), 0 + 10 + 20);
        due(13, "how many words that COUNT were for it ahead of his", of(ECHO).choice(0, 1), 2);
        due(13, "a word that does not COUNT is not heard", of(ECHO + "late bob;counts late = 1;").choice(0, 0), 0);
    }

    private static void sumsAndTests() {
        worked("2 + 3 * 4", 14);
        worked("10 - 3 - 2", 5);
        worked("100 / 7 * 7", 98);
        worked("2 * 7 % 4", 2);
        worked("(2 + 3) * 4", 20);
        worked("min (3, 4) * 10 + max (3, 4)", 34);
        worked("if (1 < 2, 5, 6)", 5);
        worked("if (2 < 1, 5, 6)", 6);
        String[] hold = {"all", "not not all", "1 < 2", "2 > 1", "2 = 2", "all or not all and not all", "[1 < 2]", "not 2 < 1 and all",
            "not [all and 1 > 2]", "1 + 1 < 1 * 3"};
        String[] fail = {"not all", "2 < 2", "2 > 2", "2 = 3", "[all or all] and not all", "not all or not all", "not all and all",
            "not [not all or all]", "0 - 1 > 0"};
        for (String test : hold) {
            worked("if (" + test + ", 1, 0)", 1);
            due(8, test, of(ANN + "counts " + test + ";").blind(0, 6), 1);
        }
        for (String test : fail) {
            worked("if (" + test + ", 1, 0)", 0);
            due(8, test, of(ANN + "counts " + test + ";").blind(0, 6), 0);
        }
    }

    private static void overLeftAndBounds() {
        worked("(0 - 7) / 2", -4);
        worked("7 / (0 - 2)", -4);
        worked("(0 - 7) / (0 - 2)", 3);
        worked("(0 - 7) % 2", -7 - 2 * -4);
        worked("7 % (0 - 2)", 7 - -2 * -4);
        worked("(0 - 7) % (0 - 2)", -7 - -2 * 3);
        worked("5 / 0", 0);
        worked("5 % 0", 0);
        worked("9999 * 9999", 1000000);
        worked("9999 * 9999 + 1 - 1", 999999);
        worked("0 - 9999 * 9999", -1000000);
        worked("0 - 9999 * 9999 - 1 + 1", -999999);
    }

    // ---- I, NAMES, NUMBERS, blanks, OWN WORDS, FAULTS

    private static void namesNumbersBlanks() {
        good(5, "thing a warm 1 loud 1 deep 1;thing abcdef warm 1 loud 1 deep 1;", 2);
        faulty(5, "thing abcdef@g warm 1 loud 1 deep 1;", 1);
        faulty(5, ANN + "colour @ann warm 1 loud 1 deep 1 cost 1;", 2);
        faulty(5, "late @ann;" + ANN, 3);
        good(5, "purse 0;purse 00;purse 000;purse 0000;gives 9999;", 5);
        faulty(5, "purse 0000@0;", 1);
        good(5, "\n \npurse\n7 ;row 1;gives 1+( 2)*3 ;\n", 3);
        faulty(5, "purse@7;", 1);
        faulty(5, "purse@\t7;", 1);
    }

    private static void ownWords() {
        String words = "blind, warm, loud, deep, colour, cost, thing, late, near, wears, purse, row, scores, counts, gives, year, "
                + "mood, match, worn, heard, bare, if, or, and, not, all, min, max";
        for (String word : words.split(", ")) {
            faulty(5, "blind @" + word + " warm 1 loud 1 deep 1;", 1);
            faulty(5, ANN + "late @" + word + ";", 1);
        }
        good(5, "blind blin warm 1 loud 1 deep 1;thing ifs warm 1 loud 1 deep 1;thing a warm 1 loud 1 deep 1;", 3);
    }

    private static void faults() {
        faulty(5, "purse 5;@!", 1);
        faulty(5, "purse @five;", 1);
        faulty(5, "@pur", 1);
        faulty(5, "purse 5 \n@", 1);
        faulty(5, "purse 5 abcdef@g", 1);
        faulty(5, "purse 5 1234@5", 1);
        faulty(5, ANN + "blind @ann loud", 2);
        faulty(5, EACH + "near @bob joe;", 3);
        faulty(5, "row @999 x", 4);
        faulty(5, "gives (((((((@(1))))))));", 5);
        faulty(5, "counts [[[[[[[@[all]]]]]]]];", 5);
        faulty(5, "counts not not not not not not not @not all;", 5);
        good(5, "counts " + "not all and ".repeat(9) + "all;", 1);
        faulty(5, "counts not not not not not not not 1 < @(2);", 5);
        faulty(5, "gives 1; @gives", 6);
        faulty(5, "row 1;".repeat(60) + "@row 999;", 6);
        faulty(5, "row 1;".repeat(60) + "@gate", 6);
    }

    // ---- II

    private static void matchScoreWord() {
        due(11, "his TASTE times 9 less how far, in all", of(EACH).score(0, 0, 0), 40);
        due(11, "the SUM of scores", of(EACH + "scores match * 2;").score(0, 0, 0), 80);
        due(12, "of the greatest SCORE", of(SMALL).word(0, 0), 1);
        due(12, "of like ones the first", of(SMALL + "scores 4;").word(0, 0), 0);
    }

    private static void theChoice() {
        due(13, "one after the other, by what was heard ahead", of(ECHO).choice(0, 0), 1);
        BlindColours x = of(ECHO);
        x.swap(0, 1);
        due(13, "in the ORDER", x.choice(0, 0), 0);
        due(13, "of like ones the first", of(ECHO.replace("* 20", "* 0")).choice(0, 0), 0);
        due(13, "it COUNTS, if the TEST holds for him", of(ECHO + "late ann;counts late = 1;").choice(0, 1), 1);
        due(13, "none COUNTS", of(ECHO + "counts not all;").choice(0, 0), NONE);
        due(13, "no COLOURS", of(blinds(2) + things(1)).choice(0, 0), NONE);
    }

    private static void aYear() {
        BlindColours x = of(EACH);
        due(6, "YEAR 0 at first", x.has(3), 0);
        due(8, "all MOODS are 5", x.blind(0, 4), 5);
        due(16, "without gives 9", of("").purse(1), 9);
        due(16, "below is 0", of("purse 3;gives 0 - 1;").purse(1), 3);
        due(16, "above 99", of("gives 100;").purse(1), 99);
        due(16, "9999 at most", at("", 5, 9998).purse(1), 9999);
        due(14, "without THINGS", of(ANN + RED).purse(1), 9);
        due(14, "YEAR modulo how many: the first", of(EACH).later(0, 1), 0);
        due(14, "not yet the second", of(EACH).later(1, 1), NONE);
        due(14, "then the second", of(EACH).later(1, 2), 0);
        due(14, "if it costs no more: 6", of(EACH + "purse 6;gives 0;").later(0, 1), NONE);
        due(14, "if it costs no more: 7", of(EACH + "purse 7;gives 0;").later(0, 1), 0);
        due(16, "the purse is less by the cost", of(EACH + "purse 7;gives 0;").purse(1), 0);
        due(14, "first more, then paid", of(EACH + "purse 6;gives 1;").later(0, 1), 0);
        due(25, "it wears it already", of(EACH + "wears door red;").years(1), 0);
        due(16, "nothing is paid then", of(EACH + "wears door red;").purse(1), 9);
        due(14, "YEAR 2: the first again", of(TURNS).later(0, 2), 1);
    }

    private static void moodsAndTheLastYear() {
        String unlike = ECHO.replace("* 20", "* 0");
        due(15, "whose WORD was chosen", of(unlike).mood(1, 1), 6);
        due(15, "each other one", of(unlike).mood(0, 1), 4);
        due(15, "9 at most", of(EACH).mood(0, 40), 9);
        due(15, "0 at least", of(blinds(2) + colours(2) + things(1) + "late a;counts late = 1;scores if(late = 1, worn, 0 - worn);"
                + "wears m g;").mood(1, 40), 0);
        due(15, "there is no CHOICE", of(EACH + "counts not all;").mood(0, 9), 5);
        due(15, "it was chosen, but can't be paid", of(EACH + "gives 0;").mood(0, 1), 6);
        BlindColours x = at(EACH, 998, 0);
        due(25, "YEAR 998", x.years(1), 1);
        due(6, "999", x.has(3), 999);
        due(25, "at most", x.years(1), NONE);
    }

    private static long next(long x) {
        return (1103515245L * x + 12345) % (1L << 31);
    }

    private static void bySeed() {
        BlindColours nobody = of("row 100;");
        nobody.seed(7);
        due(26, "no BLIND", nobody.chance(1), 0);
        due(6, "x becomes", nobody.has(10), (1103515245L * 7 + 12345) - 3 * 2147483648L);
        BlindColours x = of(blinds(3) + colours(1) + things(1) + "row 50;");
        int[] mood = {5, 5, 5};
        long dice = 1;
        for (int year = 0; year < 60; year++) {
            dice = next(dice);
            boolean quarrel = dice / 64 % 100 < 50;
            dice = quarrel ? next(dice) : dice;
            for (int i = 0; i < 3; i++) {
                boolean silent = quarrel && i == dice / 64 % 3;
                mood[i] = silent ? Math.max(0, mood[i] - 1) : Math.min(9, mood[i] + 1);
            }
            due(26, "a DRAW below row, then one of the BLIND", x.chance(1), quarrel ? 1 : 0);
            due(6, "the seed", x.has(10), dice);
            for (int i = 0; i < 3; i++) {
                due(8, "he says nothing: his MOOD is one less", x.blind(i, 4), mood[i]);
            }
        }
    }

    private static void keptAndActs() {
        BlindColours x = of(TURNS);
        due(25, "each YEAR it is PAINTED", x.years(40) + x.years(5), 45);
        due(6, "the last 40 are told", x.has(7), 40);
        due(32, "YEAR", x.kept(0, 0), 5);
        due(32, "THING", x.kept(0, 1), 0);
        due(32, "COLOUR", x.kept(0, 2), 1);
        due(32, "the latest", x.kept(39, 0), 44);
        x.paint(0, NONE);
        due(32, "by hand it is not KEPT", x.kept(39, 0), 44);
        x = of(ECHO);
        due(26, "by the seed", x.chance(2) >= 0, true);
        int purse = x.has(4);
        due(27, "painted by hand", x.paint(1, NONE), true);
        due(27, "painted by hand", x.paint(1, 1), true);
        due(6, "for nothing", x.has(4), purse);
        due(28, "two places are exchanged", x.swap(1, 0), true);
        due(29, "the purse is another one", x.fill(77), true);
        due(6, "ACTS", x.has(9), 5);
        for (int i = 0; i < 20; i++) {
            x.fill(100 + i);
        }
        due(6, "the last 20", x.has(9), 20);
        for (int i = 0; i < 20; i++) {
            due(30, "can be undone", x.undo(), true);
        }
        due(30, "no more", x.undo(), false);
        due(6, "as ahead of the first of these", x.has(4), 77);
    }

    // ---- III

    private static void ahead() {
        BlindColours x = of(ECHO.replace("row 50", "row 100"));
        due(15, "without DRAWS", x.mood(0, 4), 9);
        due(6, "the seed stays", x.has(10), 1);
        due(16, "40 at most", x.purse(40) > 0, true);
        due(16, "41", x.purse(41), NONE);
        due(16, "up to YEAR 999", at("", 990, 0).purse(9), 81);
        due(16, "not beyond it", at("", 990, 0).purse(10), NONE);
    }

    private static void ordersAndPower() {
        BlindColours x = of(ECHO);
        due(17, "red: bob first", x.order(0, 0, 0), 1);
        due(17, "then ann", x.order(0, 0, 1), 0);
        due(17, "green: ann first", x.order(0, 1, 0), 0);
        due(17, "the first of all ORDERS, the least first", of(blinds(6) + colours(1) + things(1)).order(0, 0, 5), 5);
        due(18, "by how many", x.orders(0, 0), 1);
        due(18, "of all ORDERS", of(blinds(6) + colours(1) + things(1)).orders(0, 0), 720);
        due(17, "without an ORDER", of(ECHO + "counts not all;").order(0, 0, 0), NONE);
        // ann alone: green for none; ann ahead of bob: green for red.
        due(19, "ann", x.power(0, 0), 2);
        // bob alone: red for none; bob behind ann: green as without him.
        due(19, "bob", x.power(1, 0), 1);
    }

    private static void clashes() {
        String three = colours(2) + things(3) + "near m n;near n o;";
        due(6, "two NEAR that wear the same", of(three + allWear(3, 'g')).has(6), 2);
        due(6, "not NEAR", of(three + "wears m g;wears o g;").has(6), 0);
        due(6, "that wear none", of(three).has(6), 0);
        due(20, "the fewest", of(three + allWear(3, 'g')).clear(), 2);
        due(20, "of like ones the least bits", of(three + "wears n g;wears o g;").clear(), 2);
        due(20, "there is no CLASH", of(three).clear(), 0);
        due(20, "it can't be", of(colours(2) + things(3) + allNear(3) + allWear(3, 'g')).clear(), NONE);
        due(20, "those that wear none stay so", of(colours(2) + things(3) + allNear(3) + "wears n g;wears o g;").clear(), 2);
    }

    private static void odds() {
        BlindColours x = of(ECHO);
        due(21, "50 numbers by which ann says nothing", x.odds(0), 50);
        due(21, "all the others", x.odds(1), 150);
        due(21, "all rows", x.odds(NONE), 200);
    }

    private static void metAndTelling() {
        BlindColours x = of(ECHO);
        due(23, "all, if there was none", x.tastes(0), 1023);
        due(24, "the number of YEARS", x.tells(0, 0), 1);
        due(24, "the THING", x.tells(0, 1), 0);
        due(24, "of 10 are left 1 (red) or 9 (green)", x.tells(0, 2), 9);
        due(22, "behind a YEAR the door is green", meet(x, 1, 0, 1), 1);
        due(23, "only without any taste ann says red", x.tastes(0), 1022);
        due(22, "behind a YEAR the door is red", meet(x, 1, 0, 0), 1);
        due(23, "that one alone", x.tastes(0), 1);
        due(22, "it wears none now, the gate none in a YEAR", meet(x, 0, 0, 255, 1, 1, 255), 2);
        due(23, "so it is anyway", x.tastes(0), 1023);
        due(22, "30 YEARS", meet(x, 30, 0, 255), 1);
        due(23, "so it is never", x.tastes(0), 0);
        due(22, "31 YEARS", meet(x, 31, 0, 255), NONE);
        due(23, "YEARS beyond 999 are by none", beyond(), 0);
    }

    private static long beyond() {
        BlindColours x = at(EACH, 995, 0);
        meet(x, 5, 0, 0);
        return x.tastes(0);
    }

    private static void anImage() {
        BlindColours x = of(ECHO);
        x.swap(0, 1);
        x.fill(1000);
        x.years(1);
        on(x, 3, 231, 0, 0, 0, 1, 5, 5, 255, 255);
        due(6, "the higher byte first", x.has(3), 999);
        due(35, "and back", on(x, 0, 1, 3, 245, 1, 0, 4, 6, 0, 255), true);
        int[] want = checked(0, 1, 3, 245, 1, 0, 4, 6, 0, 255);
        due(33, "how many bytes", x.image(), want.length);
        for (int k = 0; k < want.length; k++) {
            due(34, "byte " + k, x.octet(k), want[k]);
        }
        due(6, "the purse", x.has(4), 3 * 256 + 245);
        due(8, "the ORDER: of each place one of the BLIND", x.blind(1, 5), 0);
        due(8, "his MOOD", x.blind(1, 4), 6);
        due(10, "what it wears", x.thing(0, 3), 0);
        due(10, "255: none", x.thing(1, 3), NONE);
        BlindColours nobody = new BlindColours();
        due(33, "of nobody", nobody.image(), 5);
        // 229, 1145 % 251 = 141, 705 % 251 = 203, 1015 % 251 = 11, 55
        due(34, "c = (5 c + it) mod 251, from 229 on", nobody.octet(4), 55);
    }

    public static void main(String[] args) {
        aLandIsAText();
        blindColourThing();
        lateNearWears();
        purseAndRow();
        oneEach();
        whereWhatCanBeAsked();
        whatIsAsked();
        sumsAndTests();
        overLeftAndBounds();
        namesNumbersBlanks();
        ownWords();
        faults();
        matchScoreWord();
        theChoice();
        aYear();
        moodsAndTheLastYear();
        bySeed();
        keptAndActs();
        ahead();
        ordersAndPower();
        clashes();
        odds();
        metAndTelling();
        anImage();
        finish();
    }
}
