/** The edges of promises 1 to 4: a new object, the tape, what a LAND can hold at the most. */
public final class TapeEdgesTest extends Checks {

    // ---- promise 1

    private static void p1nothingIsThere() {
        BlindColours x = new BlindColours();
        for (int what = 0; what <= 9; what++) {
            due(1, "has(" + what + ") at first", x.has(what), 0);
        }
        for (int what = 0; what <= 6; what++) {
            due(1, "nobody, blind(0, " + what + ")", x.blind(0, what), NONE);
            due(1, "no COLOUR, colour(0, " + what + ")", x.colour(0, what), NONE);
            due(1, "no THING, thing(0, " + what + ")", x.thing(0, what), NONE);
            due(1, "no NAME, letter(" + what + ", 0, 0)", x.letter(what, 0, 0), NONE);
        }
        due(1, "nothing to score", x.score(0, 0, 0), NOTHING);
        due(1, "no word", x.word(0, 0), NONE);
        due(1, "no choice", x.choice(0, 0), NONE);
        due(1, "no choice", x.choice(0, 1), NONE);
        due(1, "no order", x.order(0, 0, 0), NONE);
        due(1, "no orders", x.orders(0, 0), NONE);
        due(1, "no power", x.power(0, 0), NONE);
        due(1, "nothing to clear", x.clear(), 0);
        due(1, "no odds", x.odds(0), NONE);
        due(1, "no odds of none", x.odds(NONE), NONE);
        due(1, "no tastes", x.tastes(0), NONE);
        due(1, "nothing tells", x.tells(0, 0), NONE);
        due(1, "nothing kept", x.kept(0, 0), NONE);
        due(1, "no image", x.octet(0), NONE);
    }

    private static void p1nothingIsRefusedYet() {
        BlindColours x = new BlindColours();
        for (int kind = 0; kind < 6; kind++) {
            due(1, "status(" + kind + ")", x.status(kind), 0);
        }
        due(1, "no FAULT", x.fault(0), 0);
        due(1, "no place of it", x.fault(1), NONE);
    }

    private static void p1theSeedIsOne() {
        BlindColours x = new BlindColours();
        due(1, "the seed", x.has(10), 1);
        due(1, "a year by it", x.chance(1), 0);
        due(1, "1103515245 * 1 + 12345", x.has(10), 1103527590);
    }

    private static void p1yearsWithoutALand() {
        BlindColours x = new BlindColours();
        due(1, "nobody's years", x.years(40), 0);
        due(1, "9 in each", x.has(4), 360);
        due(1, "the year", x.has(3), 40);
        due(1, "one act", x.has(9), 1);
        due(1, "later", x.later(0, 1), NONE);
        due(1, "mood", x.mood(0, 1), NONE);
        due(1, "purse", x.purse(1), 369);
    }

    private static void p1theTapeIsEmpty() {
        BlindColours x = new BlindColours();
        due(1, "a byte", x.end(1), false);
        due(1, "no byte", x.end(0), true);
        due(1, "twenty, not more", x.feed(0, 0, 0, 0, 0), 20);
    }

    private static void p1eachObjectByItself() {
        BlindColours x = busy();
        BlindColours y = new BlindColours();
        for (int what = 0; what <= 9; what++) {
            due(1, "another one's has(" + what + ")", y.has(what), 0);
        }
        due(1, "another one's seed", y.has(10), 1);
        due(1, "another one's tape", y.end(1), false);
        y.seed(5);
        y.land();
        due(1, "his own three", x.has(0), 3);
        due(1, "his own seed", x.has(10) == 5, false);
        due(1, "his own tape", x.end(15), true);
    }

    // ---- promise 2

    private static void p2upTo1600() {
        BlindColours x = new BlindColours();
        for (int n = 20; n <= 1600; n += 20) {
            due(2, "how many there are", x.feed(n, n, n, n, n), n);
        }
        due(2, "full", x.feed(0, 0, 0, 0, 0), NONE);
        due(2, "full still", x.end(1600), true);
        due(2, "but not beyond", x.end(1601), false);
        due(2, "refused", x.status(0), 2);
    }

    private static BlindColours full(int bytes) {
        BlindColours x = new BlindColours();
        write(x, "purse 5; row 9; " + " ".repeat(bytes - 22) + "purse;");
        return x;
    }

    private static void p2notMoreThan1600() {
        due(2, "1580 and 20", full(1580).feed(0, 0, 0, 0, 0), 1600);
        due(2, "1579 and 20", full(1579).feed(0, 0, 0, 0, 0), 1599);
        for (int bytes : new int[] {1581, 1582, 1590, 1599, 1600}) {
            refused(2, bytes + " and 20 bytes", () -> full(bytes), x -> x.feed(1, 2, 3, 4, 5), NONE, 0, false);
        }
        refused(2, "1581 and 20 in a LAND", () -> {
            BlindColours x = busy();
            x.end(0);
            write(x, "purse 5;" + " ".repeat(1573));
            return x;
        }, x -> x.feed(-1, LEAST, 0, GREATEST, 1), NONE, 0, false);
    }

    /** A FAULT at byte k tells that the byte which was fed k-th stands there. */
    private static void p2theHighestFirst() {
        for (int k = 0; k < 20; k++) {
            for (int odd : new int[] {33, 128, 255}) {
                int[] five = {0x20202020, 0x20202020, 0x20202020, 0x20202020, 0x20202020};
                int shift = 24 - k % 4 * 8;
                five[k / 4] = five[k / 4] & ~(255 << shift) | odd << shift;
                BlindColours x = new BlindColours();
                due(2, "twenty", x.feed(five[0], five[1], five[2], five[3], five[4]), 20);
                due(2, "byte " + k + " is " + odd, x.land(), NONE);
                due(2, "its place", x.fault(1), k);
            }
        }
    }

    private static void p2behindThoseOnTheTape() {
        BlindColours x = new BlindColours();
        write(x, "row 5;p");
        due(2, "7 and 20", x.feed(0x75727365, 0x20312020, 0x20202020, 0x20202020, 0x2020203b), 27);
        due(2, "row 5; purse 1;", x.land(), 2);
        due(2, "the purse", x.has(4), 1);
        due(2, "from the start again", x.feed(0, 0, 0, 0, 0), 20);
    }

    // ---- promise 3

    private static void p3whatItHas() {
        BlindColours x = new BlindColours();
        due(3, "none of none", x.end(0), true);
        write(x, "row 5;purse 8;!");
        due(3, "all", x.end(15), true);
        due(3, "less", x.end(14), true);
        due(3, "what has gone", x.end(15), false);
        due(3, "the first ones stay", x.land(), 2);
        due(3, "the purse", x.has(4), 8);
        write(x, "row 5;purse 8;!");
        due(3, "none", x.end(0), true);
        due(3, "not one then", x.end(1), false);
        due(3, "nothing told", x.land(), 0);
    }

    private static void p3behindItIsNothing() {
        BlindColours x = new BlindColours();
        write(x, "row 5;purse 80;");
        x.end(13);
        due(3, "what is fed comes behind these", x.feed(0x3b202020, 0x20202020, 0x20202020, 0x20202020, 0x20202020), 33);
        due(3, "row 5;purse 8;", x.land(), 2);
        due(3, "the purse", x.has(4), 8);
    }

    private static void p3notMoreNotBelow() {
        for (int n : new int[] {16, 17, 1600, 1601, GREATEST, -1, -2, -16, LEAST}) {
            refused(3, "end(" + n + ") of 15", Checks::busy, x -> x.end(n) ? 1 : 0, 0, 0, false);
        }
        for (int n : new int[] {1, 20, -1}) {
            refused(3, "end(" + n + ") of none", BlindColours::new, x -> x.end(n) ? 1 : 0, 0, 0, false);
        }
        refused(3, "end(1600) of 1599", () -> full(1599), x -> x.end(1600) ? 1 : 0, 0, 0, false);
        due(3, "end(1600) of 1600", full(1600).end(1600), true);
    }

    // ---- promise 4

    private static void p4noStatement() {
        due(4, "an empty tape", new BlindColours().land(), 0);
        good(4, " ", 0);
        good(4, "\n \n  \n", 0);
        good(4, " ".repeat(1600), 0);
        BlindColours x = busy();
        x.end(0);
        due(4, "an empty tape", x.land(), 0);
        int[] want = {0, 0, 0, 0, 0, 0, 0, 0, 0, 0};
        for (int what = 0; what <= 9; what++) {
            due(4, "has(" + what + ") behind it", x.has(what), want[what]);
        }
        due(4, "9 come again", x.purse(1), 9);
        due(4, "one draw in a year", x.chance(1), 0);
    }

    private static void p4sixtyStatements() {
        good(4, "row 1;", 1);
        good(4, "row 1;".repeat(59), 59);
        good(4, "row 1;".repeat(60), 60);
        faulty(4, "row 1;".repeat(60) + "@row 1;", 6);
        // All kinds of them, sixty together.
        String all = blinds(6) + colours(6) + things(6) + "late a;late b;late c;late d;late e;late f;" + allNear(6) + allWear(6, 'g')
                + "purse 9;row 9;scores 1;counts all;gives 1;";
        good(4, all, 50);
        good(4, all + "purse 1;".repeat(10), 60);
        faulty(4, all + "purse 1;".repeat(10) + "@purse 1;", 6);
    }

    private static void p4bytes1600() {
        good(4, "purse 4;gives 1" + "+0".repeat(791) + "+1;", 2);
        good(4, " ".repeat(1594) + "row 5;", 1);
        BlindColours x = of("gives 1" + "+0".repeat(795) + "+1;");
        due(4, "1600 bytes, 798 numbers", x.purse(1), 2);
        x = of(SMALL + "scores match" + "+1".repeat(650) + ";");
        due(4, "650 times one more", x.score(0, 0, 1), 659);
        x = of("blind a warm 0 loud 0 deep 0;counts all" + " and all".repeat(190) + " and 1>2;");
        due(4, "190 times and", x.blind(0, 6), 0);
        x = of("blind a warm 0 loud 0 deep 0;counts 1>2" + " or 1>2".repeat(190) + " or all;");
        due(4, "190 times or", x.blind(0, 6), 1);
        faulty(4, "gives 1" + "+0".repeat(796) + "@", 1);
        faulty(4, "row 5;" + " ".repeat(1589) + "row 5@", 1);
        faulty(4, "row 5;" + " ".repeat(1593) + "@;", 1);
        faulty(4, "row 5;" + " ".repeat(1589) + "row @x", 1);
        faulty(4, "row 5;" + " ".repeat(1587) + "abcdef@g", 1);
    }

    private static void p4sevenOpenOnBothSides() {
        String open = "1";
        for (int i = 0; i < 7; i++) {
            open = "0+1*if(1=2 or 1=1 and 0<0+1*" + open + ",1,0)";
        }
        due(4, "seven in one another, much waiting in each", of("gives " + open + ";").purse(1), 1);
        open = "1";
        for (int i = 0; i < 7; i++) {
            open = "2*max(1-1," + open + ")-1";
        }
        due(4, "seven in one another", of("gives " + open + ";").purse(1), 1);
    }

    private static void p4asAtFirst() {
        BlindColours x = busy();
        int seed = x.has(10);
        x.end(0);
        due(4, "another land", tell(x, SMALL + "blind b warm 0 loud 0 deep 0;near t u;wears u g;purse 12;row 100;"), 10);
        int[] want = {2, 2, 2, 0, 12, 1, 0, 0, 0, 0, seed};
        for (int what = 0; what <= 10; what++) {
            due(4, "has(" + what + ") as at first", x.has(what), want[what]);
        }
        for (int b = 0; b < 2; b++) {
            due(4, "nobody is LATE", x.blind(b, 3), 0);
            due(4, "his MOOD", x.blind(b, 4), 5);
            due(4, "his place", x.blind(b, 5), b);
            due(4, "his WORD COUNTS", x.blind(b, 6), 1);
            due(4, "nothing MET", x.tastes(b), 1023);
        }
        due(4, "t wears none", x.thing(0, 3), NONE);
        due(4, "u wears g", x.thing(1, 3), 1);
        due(4, "scores is told no more", x.score(0, 0, 1), 9);
        due(4, "gives is told no more", x.purse(1), 12 + 9 - 5);
        due(4, "nothing is KEPT", x.kept(0, 0), NONE);
        due(4, "no ACT", x.undo(), false);
        due(4, "a row of 100", x.chance(1), 1);
    }

    /** Nothing of a text stays for the next ones, be they two, three or four later, nor of one that was refused between them. */
    private static void p4nothingOfOlderTexts() {
        String rich = SMALL + "late a;near t u;wears t r;wears u g;purse 70;row 100;scores 3;counts late=0;gives 50;";
        for (int between = 0; between <= 3; between++) {
            for (String last : new String[] {"", rich + "x", "late z;"}) {
                BlindColours x = of(rich);
                for (int i = 0; i < between; i++) {
                    due(4, "one between them", tell(x, i == 1 ? "purse 5;" : rich), i == 1 ? 1 : 14);
                }
                due(4, "the last but one", tell(x, last), last.isEmpty() ? 0 : NONE);
                due(4, "the last", tell(x, SMALL), 5);
                due(4, "not LATE", x.blind(0, 3), 0);
                due(4, "his WORD COUNTS", x.blind(0, 6), 1);
                due(4, "not NEAR", x.thing(0, 4), 0);
                due(4, "not NEAR", x.thing(1, 4), 0);
                due(4, "they wear none", x.has(5), 2);
                due(4, "no purse", x.has(4), 0);
                due(4, "no scores", x.score(0, 0, 1), 9);
                due(4, "no gives", x.purse(1), 6);
                due(4, "no row", x.odds(1), 100);
            }
        }
    }

    private static void p4theSameAgain() {
        BlindColours x = of(SMALL + "purse 2;wears t r;");
        x.years(3);
        x.seed(99);
        tell(x, SMALL + "purse 2;wears t r;");
        due(4, "the year", x.has(3), 0);
        due(4, "the purse", x.has(4), 2);
        due(4, "t", x.thing(0, 3), 0);
        due(4, "u", x.thing(1, 3), NONE);
        due(4, "the mood", x.blind(0, 4), 5);
        due(4, "the seed", x.has(10), 99);
        due(4, "none to undo", x.undo(), false);
        due(4, "none kept", x.has(7), 0);
    }

    private static void p4withoutThemIsNone() {
        BlindColours x = of(SMALL + "purse 999;row 100;wears t g;");
        tell(x, SMALL);
        due(4, "no purse", x.has(4), 0);
        due(4, "no row", x.chance(9), 0);
        tell(x, SMALL);
        due(4, "none worn", x.has(5), 2);
    }

    private static void p4refusedAllStays() {
        refusedLand(4, "x", 1, 0);
        refusedLand(4, "purse 3", 1, 7);
        refusedLand(4, "blind a warm 1 loud 1 deep 1;blind a warm 2 loud 2 deep 2;", 2, 35);
        refusedLand(4, "late x;", 3, 5);
        refusedLand(4, "purse 1000;", 4, 6);
        refusedLand(4, "gives ((((((((1))))))));", 5, 13);
        refusedLand(4, "gives 1;gives 2;", 6, 8);
        refusedLand(4, "row 1;".repeat(61), 6, 360);
        String other = "purse 50;gives 99;scores 0-match;counts not all;row 100;blind u warm 1 loud 1 deep 1;late u;"
                + "colour v warm 1 loud 1 deep 1 cost 1;thing w warm 1 loud 1 deep 1;thing y warm 1 loud 1 deep 1;near w y;wears w v;";
        refusedLand(4, other + "w", 1, other.length());
        refusedLand(4, other + "late u;", 3, other.length() + 5);
    }

    private static void p4theTapeGoes() {
        BlindColours x = new BlindColours();
        write(x, "row 7;");
        due(4, "taken", x.land(), 1);
        due(4, "the tape has gone", x.end(1), false);
        write(x, "row 7");
        due(4, "refused", x.land(), NONE);
        due(4, "the tape has gone", x.end(1), false);
        due(4, "nothing is told then", x.land(), 0);
    }

    public static void main(String[] args) {
        p1nothingIsThere();
        p1nothingIsRefusedYet();
        p1theSeedIsOne();
        p1yearsWithoutALand();
        p1theTapeIsEmpty();
        p1eachObjectByItself();
        p2upTo1600();
        p2notMoreThan1600();
        p2theHighestFirst();
        p2behindThoseOnTheTape();
        p3whatItHas();
        p3behindItIsNothing();
        p3notMoreNotBelow();
        p4noStatement();
        p4sixtyStatements();
        p4bytes1600();
        p4sevenOpenOnBothSides();
        p4asAtFirst();
        p4nothingOfOlderTexts();
        p4theSameAgain();
        p4withoutThemIsNone();
        p4refusedAllStays();
        p4theTapeGoes();
        finish();
    }
}
