/** Each promise by itself, with answers worked out by hand from the document. */
public final class PromisesTest extends Checks {

    private static void p1() {
        BlindColours x = new BlindColours();
        for (int what = 0; what <= 9; what++) {
            due(1, "has " + what, x.has(what), 0);
        }
        due(1, "seed", x.has(10), 1);
        due(1, "constants", BlindColours.NONE, -1);
        due(1, "constants", BlindColours.NOTHING, -1000000000000000L);
        due(1, "no image", x.octet(0), NONE);
        due(1, "purse(0)", x.purse(0), 0);
        due(1, "clear", x.clear(), 0);
        due(1, "odds", x.odds(NONE), NONE);
        due(1, "years", x.years(40), 0);
        due(1, "purse behind them", x.has(4), 360);
        due(1, "chance", x.chance(40), 0);
        due(1, "year", x.has(3), 80);
    }

    private static void p2and3() {
        BlindColours x = new BlindColours();
        for (int i = 1; i <= 80; i++) {
            due(2, "feed", x.feed(1, 2, 3, 4, 5), 20 * i);
        }
        due(2, "feed too much", x.feed(1, 2, 3, 4, 5), NONE);
        due(2, "refused", x.status(0), 1);
        due(3, "end", x.end(1581), true);
        due(2, "feed 1581 + 20", x.feed(0, 0, 0, 0, 0), NONE);
        due(3, "end", x.end(1580), true);
        due(2, "feed 1580 + 20", x.feed(0, 0, 0, 0, 0), 1600);
        due(3, "end with all", x.end(1600), true);
        due(3, "end with more", x.end(1601), false);
        due(3, "end below 0", x.end(-1), false);
        due(3, "end so low", x.end(Integer.MIN_VALUE), false);
        due(3, "refused", x.status(0), 5);
        due(3, "end with none", x.end(0), true);
        due(3, "end with one of none", x.end(1), false);
        due(2, "five bytes of an image", x.feed(0x00050007, 187 << 24, -1, -1, -1), 20);
        due(3, "end", x.end(5), true);
        due(2, "the highest byte first", x.on(), true);
        due(2, "year", x.has(3), 5);
        due(2, "purse", x.has(4), 7);
        due(2, "the first bytes stand first", tell(x, "purse 12;row 3;"), 2);
        due(2, "purse", x.has(4), 12);
    }

    private static void p4() {
        BlindColours x = new BlindColours();
        due(4, "no text", x.land(), 0);
        due(4, "blanks", tell(x, " \n \n"), 0);
        due(4, "small", tell(x, SMALL), 5);
        due(4, "the tape goes", x.end(1), false);
        due(4, "all kinds", tell(x, SMALL + "late a;near t u;wears t r;wears t g;purse 4;purse 7;row 8;row 100;"
                + "scores match;counts all;gives 3;"), 16);
        due(4, "the last purse", x.has(4), 7);
        due(4, "the last one it wears", x.thing(0, 3), 1);
        due(4, "seed", x.seed(77), true);
        due(4, "years", x.years(5), 1);
        due(4, "paint", x.paint(0, NONE), true);
        due(4, "meet", meet(x, 0, 0, 255), 1);
        due(4, "a fault", tell(x, "purse 9;row 5"), NONE);
        due(4, "the tape goes", x.end(1), false);
        due(4, "refused", x.status(1), 1);
        due(4, "year stays", x.has(3), 5);
        due(4, "kept stays", x.has(7), 1);
        due(4, "met stays", x.has(8), 1);
        due(4, "acts stay", x.has(9), 2);
        due(4, "names stay", x.letter(2, 1, 0), 21);
        due(4, "gives stays", x.purse(1), x.has(4) + 3);
        due(4, "again", tell(x, SMALL), 5);
        due(4, "year", x.has(3), 0);
        due(4, "purse", x.has(4), 0);
        due(4, "kept", x.has(7), 0);
        due(4, "met", x.has(8), 0);
        due(4, "acts", x.has(9), 0);
        due(4, "seed stays", x.has(10), 77);
        due(4, "mood", x.blind(0, 4), 5);
        due(4, "late no more", x.blind(0, 3), 0);
        due(4, "near no more", x.thing(0, 4), 0);
        due(4, "wears nothing", x.thing(0, 3), NONE);
        due(4, "gives 9 again", x.purse(1), 6);
        due(4, "sixty", tell(x, "row 1;".repeat(60)), 60);
        String hundreds = "counts year" + "+1".repeat(200) + ">200;gives 1" + "+0".repeat(300) + "+2;";
        for (int i = 0; i < 5; i++) {
            due(4, "long ones again and again", tell(x, hundreds), 2);
            due(4, "long ones again and again", x.purse(1), 3);
        }
    }

    private static void fault(String text, int kind, int place) {
        BlindColours x = of("purse 3;");
        due(5, text, tell(x, text), kind == 0 ? text.chars().filter(c -> c == ';').count() : NONE);
        due(5, text + ": fault", x.fault(0), kind);
        due(5, text + ": place", x.fault(1), place);
        due(5, text + ": refused", x.status(1), kind == 0 ? 0 : 1);
        due(5, text + ": purse", kind == 0 ? 3 : x.has(4), 3);
    }

    private static void p5() {
        BlindColours x = new BlindColours();
        due(5, "ahead of any", x.fault(0), 0);
        due(5, "ahead of any", x.fault(1), NONE);
        due(5, "another what", x.fault(2), NONE);
        due(5, "another what", x.fault(-1), NONE);
        String[] ones = {"blind@", "blind @", "@;", "row 5@", "row 5 @", "row@5;", "purse 5@row 6;", "row 1234@5;",
            "sevenx@yzab", "abcdef@g", "row abcdef@g;", "row 5;abcdef@g", "blind @all warm 1", "blind @Ann", "row@\t5;", "row 5;@;",
            "row @;", "row @-1;", "row @x;", "gives 1+@;", "gives (1@;", "gives 1@);", "gives min @1", "gives if(1@,2,3);",
            "counts all@<1;", "counts 1@;", "counts (@all);", "counts [1@];", "counts 1<2@<3;", "counts not @;",
            "gives @mood;", "gives @match;", "gives @late;", "counts @heard>1;", "counts @match>1;", "counts @purse>1;",
            "scores @bare;", "scores @purse;", "scores @all;", "scores @warm;", "scores @x;", "late @5;", "late @row;",
            "gives 1 @2;", "gives min(1@);", "gives min(1,2@,3);", "gives if(all,1@);", "gives 1@!", "gives 1@\u00e9",
            "gives (1@];", "counts [all@);", "blind a @loud 1", "blind a warm @loud", "blind a warm 1 loud 2 deep 3@",
            "blind a warm 1 loud 2 deep 3 @cost 4;", "colour a warm 1 loud 2 deep 3@;", "gives @*1;", "gives 1*@*1;",
            "gives @", "scores match-@-1;", "row 1@,", "counts 5@and 1;", "counts all@5;"};
        for (String s : ones) {
            faultAt(s, 1);
        }
        String two = "blind a warm 1 loud 2 deep 3;colour c warm 0 loud 0 deep 0 cost 0;thing t warm 1 loud 1 deep 1;"
                + "thing u warm 1 loud 1 deep 1;";
        for (String s : new String[] {"blind @a", "blind @c warm", "blind @t", "colour @a", "colour @c", "colour @u;",
            "thing @a!", "thing @c5", "thing  \n@t"}) {
            faultAt(two + s, 2);
        }
        faultAt(two + "blind abcdef@a", 1);
        faultAt(two + "blind at@5", 1);
        for (String s : new String[] {"late @b;", "late @c;", "late @t;", "late a;late @a;", "near @a t;", "near @x t;", "near t @x;",
            "near t @a;", "near t @t;", "near t u;near t @u;", "near t u;near u @t;", "wears @a c;", "wears @c t;", "wears t @t;",
            "wears t @x;", "wears @y x;", "late @aa;"}) {
            faultAt(two + s, 3);
        }
        faultAt("late @a;blind a warm 1 loud 1 deep 1;", 3);
        for (String s : new String[] {"blind x warm @10", "blind x warm 1 loud @10", "blind x warm 1 loud 1 deep @9999;",
            "colour x warm 1 loud 2 deep 3 cost @100;", "thing x warm 9 loud 9 deep @10;", "purse @1000;", "row @101;", "row @0101;",
            "colour x warm @10loud"}) {
            faultAt(two + s, 4);
        }
        faultAt(two + "row 1010@1;", 1);
        fault(two + "row 0100;purse 0999;colour x warm 9 loud 09 deep 009 cost 0099;", 0, NONE);
        fault("gives 9999;", 0, NONE);
        p5deep();
        p5many(two);
        x = new BlindColours();
        tell(x, ";");
        due(5, "a fault", x.fault(0), 1);
        tell(x, "");
        due(5, "of the latest", x.fault(0), 0);
        due(5, "of the latest", x.fault(1), NONE);
    }

    /** The FAULT is where the sign @ stands, which is not in the text. */
    private static void faultAt(String text, int kind) {
        fault(text.replace("@", ""), kind, text.indexOf('@'));
    }

    private static void p5deep() {
        fault("gives (((((((1)))))));", 0, NONE);
        faultAt("gives (((((((@((1", 5);
        faultAt("gives (((((((min@(1,2", 5);
        faultAt("gives (((((((1+@(1", 5);
        fault("gives (((((((1))))))+((((((1)))))));", 0, NONE);
        fault("counts not not not not not not not all;", 0, NONE);
        faultAt("counts not not not not not not not @not all;", 5);
        faultAt("counts not not not not not not not @[all];", 5);
        fault("counts not all and not all or not all and not all and not all or not all and not all and not all;", 0, NONE);
        faultAt("counts not [not [not [not @[not all]]]];", 5);
        faultAt("counts not if(not all and [not not min(max(1,@(2)),3)<1],1,2)>1;", 5);
        fault("counts not if(not all and [not min(max(1,2),3)<1],1,2)>1;", 0, NONE);
        fault("counts not 1<2 and [[[[[[[all]]]]]]];", 0, NONE);
        BlindColours x = new BlindColours();
        for (String s : new String[] {"gives ((((((((", "gives (((1;", "counts not not [x", "gives ((((((((("}) {
            due(5, s, tell(x, s), NONE);
            due(5, "what was open ahead of a fault is no more", tell(x, "gives (((((((1)))))));"), 1);
        }
        faultAt("counts not not not 1<((((1)))) and not not 1<(((((@(((1", 5);
    }

    private static void p5many(String two) {
        for (String kind : new String[] {"blind", "colour", "thing"}) {
            StringBuilder six = new StringBuilder();
            for (char c = 'a'; c <= 'f'; c++) {
                six.append(kind).append(' ').append(c).append(" warm 1 loud 1 deep 1")
                        .append(kind.equals("colour") ? " cost 1;" : ";");
            }
            fault(six.toString(), 0, NONE);
            faultAt(six + "@" + kind + " g", 6);
            faultAt(six + "@" + kind, 6);
        }
        faultAt("scores 1; @scores 2;", 6);
        faultAt("counts all;\n@counts", 6);
        faultAt("gives 1;@gives;", 6);
        String sixty = "row 1;".repeat(60);
        for (String s : new String[] {"@row 1;", "@blind all", "@purse 1000", "@gives x;", "  @late",
            "@x;", "@;", "@5", "\n@rowsabc", "@12345", "@!"}) {
            faultAt(sixty + s, 6);
        }
        fault(sixty + " \n", 0, NONE);
        faultAt("row 1;".repeat(59) + "@x;", 1);
    }

    private static void p6() {
        BlindColours x = of(SMALL + "near t u;wears t r;wears u r;purse 50;");
        int[] want = {1, 2, 2, 0, 50, 0, 1, 0, 0, 0, 1};
        for (int what = 0; what <= 10; what++) {
            due(6, "has " + what, x.has(what), want[what]);
        }
        due(6, "none such", x.has(11), NONE);
        due(6, "none such", x.has(-1), NONE);
        due(6, "years", x.years(3), 1);
        x.paint(1, NONE);
        meet(x, 1, 1, 0, 2, 0, 255);
        x.seed(9);
        int[] later = {1, 2, 2, 3, 50 + 27 - 3, 1, 0, 1, 2, 2, 9};
        for (int what = 0; what <= 10; what++) {
            due(6, "has then " + what, x.has(what), later[what]);
        }
        BlindColours three = of("colour c warm 0 loud 0 deep 0 cost 0;thing t warm 1 loud 1 deep 1;thing u warm 1 loud 1 deep 1;"
                + "thing v warm 1 loud 1 deep 1;near t u;near v u;near t v;wears t c;wears v c;");
        due(6, "two that wear none are no clash", three.has(6), 1);
        due(6, "wear none", three.has(5), 1);
        three.paint(1, 0);
        due(6, "three clashes", three.has(6), 3);
    }

    private static void p7() {
        BlindColours x = of("blind az warm 1 loud 2 deep 3;colour abcxyz warm 1 loud 2 deep 3 cost 4;thing m warm 1 loud 1 deep 1;"
                + "thing zzzzzz warm 1 loud 1 deep 1;");
        due(7, "a", x.letter(0, 0, 0), 1);
        due(7, "z", x.letter(0, 0, 1), 26);
        due(7, "behind", x.letter(0, 0, 2), 0);
        due(7, "behind", x.letter(0, 0, 5), 0);
        due(7, "no k", x.letter(0, 0, 6), NONE);
        due(7, "no k", x.letter(0, 0, -1), NONE);
        due(7, "no blind", x.letter(0, 1, 0), NONE);
        due(7, "no blind", x.letter(0, -1, 0), NONE);
        int[] six = {1, 2, 3, 24, 25, 26};
        for (int k = 0; k < 6; k++) {
            due(7, "abcxyz", x.letter(1, 0, k), six[k]);
            due(7, "zzzzzz", x.letter(2, 1, k), 26);
        }
        due(7, "m", x.letter(2, 0, 0), 13);
        due(7, "no kind", x.letter(3, 0, 0), NONE);
        due(7, "no kind", x.letter(-1, 0, 0), NONE);
        due(7, "nobody", new BlindColours().letter(0, 0, 0), NONE);
    }

    private static void p8() {
        BlindColours x = of("blind a warm 1 loud 2 deep 3;blind b warm 4 loud 5 deep 6;late b;colour c warm 1 loud 1 deep 1 cost 0;"
                + "colour d warm 9 loud 9 deep 9 cost 0;thing t warm 1 loud 1 deep 1;counts mood > 5 or year = 2;");
        for (int i = 0; i < 6; i++) {
            due(8, "tastes", x.blind(i / 3, i % 3), i + 1);
        }
        due(8, "late", x.blind(0, 3), 0);
        due(8, "late", x.blind(1, 3), 1);
        due(8, "mood", x.blind(0, 4), 5);
        due(8, "place", x.blind(1, 5), 1);
        due(8, "counts", x.blind(1, 6), 0);
        x.swap(0, 1);
        due(8, "place behind a swap", x.blind(1, 5), 0);
        due(8, "place behind a swap", x.blind(0, 5), 1);
        x.years(2);
        due(8, "no choice, no mood", x.blind(1, 4), 5);
        due(8, "counts in year 2", x.blind(1, 6), 1);
        x.years(1);
        due(8, "mood", x.blind(1, 4), 6);
        due(8, "counts by mood", x.blind(1, 6), 1);
        due(8, "no what", x.blind(0, 7), NONE);
        due(8, "no what", x.blind(0, -1), NONE);
        due(8, "nobody", x.blind(2, 0), NONE);
        due(8, "nobody", x.blind(-1, 0), NONE);
        BlindColours alone = of("blind a warm 1 loud 2 deep 3;");
        due(8, "counts always", alone.blind(0, 6), 1);
        due(8, "counts by late", of("blind a warm 1 loud 2 deep 3;late a;counts late = 1;").blind(0, 6), 1);
        due(8, "counts by late", of("blind a warm 1 loud 2 deep 3;counts late = 1;").blind(0, 6), 0);
    }

    private static void p9and10() {
        BlindColours x = of(SMALL + "thing v warm 2 loud 3 deep 4;near u v;near t v;wears t g;wears v g;wears u r;");
        int[] r = {0, 0, 0, 5, 1};
        int[] g = {9, 0, 0, 3, 2};
        int[] v = {2, 3, 4, 1, 2};
        for (int what = 0; what < 5; what++) {
            due(9, "r", x.colour(0, what), r[what]);
            due(9, "g", x.colour(1, what), g[what]);
            due(10, "v", x.thing(2, what), v[what]);
        }
        due(10, "near", x.thing(0, 4), 1);
        x.paint(2, NONE);
        due(9, "worn less", x.colour(1, 4), 1);
        due(10, "wears none", x.thing(2, 3), NONE);
        for (int bad : new int[] {-1, 5, Integer.MAX_VALUE}) {
            due(9, "no what", x.colour(0, bad), NONE);
            due(10, "no what", x.thing(0, bad), NONE);
        }
        due(9, "none such", x.colour(2, 0), NONE);
        due(9, "none such", x.colour(-1, 4), NONE);
        due(10, "none such", x.thing(3, 0), NONE);
        due(10, "none such", x.thing(-1, 3), NONE);
    }

    /** The SCORE of the one COLOUR by the one who is asked, in YEAR 17, by the sum that is told. */
    private static long worked(String sum) {
        BlindColours x = of("blind a warm 1 loud 0 deep 2;late a;colour c warm 1 loud 1 deep 1 cost 13;thing t warm 5 loud 1 deep 9;"
                + "thing u warm 1 loud 1 deep 1;thing v warm 1 loud 1 deep 1;wears u c;wears v c;scores " + sum + ";");
        on(x, 0, 17, 0, 0, 0, 8, 255, 0, 0);
        return x.score(0, 0, 0);
    }

    private static void p11() {
        Object[][] sums = {{"match", 1 * 5 + 2 * 1}, {"year", 17}, {"mood", 8}, {"late", 1}, {"worn", 2}, {"heard", 0}, {"cost", 13},
            {"7-2-3", 2}, {"2+3*4", 14}, {"(2+3)*4", 20}, {"20/3*3", 18}, {"2*20/3", 13}, {"7/2", 3}, {"(0-7)/2", -4},
            {"7/(0-2)", -4}, {"(0-7)/(0-2)", 3}, {"7%3", 1}, {"(0-7)%3", 2}, {"7%(0-3)", -2}, {"(0-7)%(0-3)", -1}, {"6%3", 0},
            {"(0-6)/3", -2}, {"5/0", 0}, {"5%0", 0}, {"5/0+4", 4}, {"9999*9999", 1000000}, {"0-9999*9999", -1000000},
            {"9999*9999-1", 999999}, {"0-9999*9999-9999*9999", -1000000}, {"9999*9999+9999*9999-9999*9999", 0},
            {"1000*1000-1", 999999}, {"min(3,4)", 3}, {"min(4,3)", 3}, {"max(3,4)", 4}, {"max(4,3)", 4}, {"min(0-3,2)+max(0-3,0-2)", -5},
            {"if(1<2,5,6)", 5}, {"if(2<1,5,6)", 6}, {"if(2<2,5,6)", 6}, {"if(2>2,5,6)", 6}, {"if(3>2,5,6)", 5}, {"if(2=2,5,6)", 5},
            {"if(2=3,5,6)", 6}, {"if(all,5,6)", 5}, {"if(not all,5,6)", 6}, {"if(not not all,5,6)", 5},
            {"if(all or all and not all,5,6)", 5}, {"if([all or all] and not all,5,6)", 6}, {"if(not all or all,5,6)", 5},
            {"if(not all and all,5,6)", 6}, {"if(not [all and not all],5,6)", 5}, {"if(not 1>2,5,6)", 5},
            {"if(year=17 and mood=8 and late=1 and worn=2,5,6)", 5}, {"if(1+1>1,2+2,3+3)*2", 8}, {"1+if(all,min(9,7),0)-max(1,2)", 6},
            {"match*100+cost", 713}, {"0012", 12}, {"mood-mood%5", 5}, {"if(not all or 1=1 and 1=1,5,6)", 5},
            {"9999*101%1000", 0}, {"9999*100%1000", 900}, {"0-1/2", 0}, {"(0-1)/2", -1}, {"1/(0-9999)", -1}, {"(0-9999*9999)/(0-1)", 1000000},
            {"9999*9999/7", 142857}, {"9999*9999%7", 1}};
        for (Object[] s : sums) {
            due(11, (String) s[0], worked((String) s[0]), (Integer) s[1]);
        }
        BlindColours x = of(SMALL);
        due(11, "match alone", x.score(0, 0, 0), 0);
        due(11, "match alone", x.score(0, 0, 1), 9);
        due(11, "match alone", x.score(0, 1, 0), 9);
        due(11, "none such", x.score(1, 0, 0), NOTHING);
        due(11, "none such", x.score(0, 2, 0), NOTHING);
        due(11, "none such", x.score(0, 0, 2), NOTHING);
        due(11, "none such", x.score(-1, 0, 0), NOTHING);
        due(11, "none such", x.score(0, -1, 0), NOTHING);
        due(11, "none such", x.score(0, 0, -1), NOTHING);
        BlindColours far = of("blind a warm 9 loud 8 deep 7;colour c warm 9 loud 3 deep 0 cost 0;thing t warm 0 loud 3 deep 9;");
        due(11, "as far as can be", far.score(0, 0, 0), 72);
        far = of("blind a warm 9 loud 9 deep 9;colour c warm 4 loud 4 deep 4 cost 0;thing t warm 4 loud 4 deep 4;");
        due(11, "as near as can be", far.score(0, 0, 0), 243);
    }

    private static void p12and13() {
        BlindColours x = of(TALK);
        int[] words = {0, 1, 2};
        for (int b = 0; b < 3; b++) {
            due(12, "word", x.word(b, 0), words[b]);
        }
        // x says r (18), hearing it y says r (50, b is 18), z hears two for r (100, g is 81).
        due(13, "choice", x.choice(0, 0), 0);
        due(13, "how many", x.choice(0, 1), 3);
        x.swap(0, 1);
        due(13, "choice, y first", x.choice(0, 0), 1);
        x.swap(0, 2);
        // z says g, then y g, then x g.
        due(13, "choice, z first", x.choice(0, 0), 2);
        BlindColours quiet = of(TALK + "counts late = 1;late y;");
        // x does not count, so y hears nothing: b; z hears one for b (50), says g (81), which does not count.
        due(13, "one counts", quiet.choice(0, 0), 1);
        due(13, "one counts", quiet.choice(0, 1), 1);
        due(13, "none counts", of(TALK + "counts not all;").choice(0, 0), NONE);
        due(13, "none counts", of(TALK + "counts not all;").choice(0, 1), NONE);
        BlindColours tie = of(TALK.replace("heard * 50", "heard * 0"));
        due(13, "of like ones the first", tie.choice(0, 0), 0);
        due(13, "of like ones the first", tie.choice(0, 1), 1);
        tie.swap(0, 2);
        due(13, "of like ones the first COLOUR", tie.choice(0, 0), 0);
        BlindColours like = of(TALK.replace("match + heard * 50", "0 - heard"));
        due(12, "of like ones the first", like.word(2, 0), 0);
        // 0 0 0: r; -1 0 0: b; -1 -1 0: g
        due(13, "each another one", like.choice(0, 1), 1);
        due(12, "below 0, the greatest", of(TALK.replace("match + heard * 50", "0-5-match")).word(2, 0), 0);
        BlindColours bare = of("blind a warm 1 loud 1 deep 1;thing t warm 1 loud 1 deep 1;");
        due(12, "without colours", bare.word(0, 0), NONE);
        due(13, "without colours", bare.choice(0, 0), NONE);
        due(13, "without colours", bare.choice(0, 1), NONE);
        BlindColours nobody = of("colour c warm 1 loud 1 deep 1 cost 0;thing t warm 1 loud 1 deep 1;");
        due(12, "nobody", nobody.word(0, 0), NONE);
        due(13, "nobody", nobody.choice(0, 0), NONE);
        due(12, "none such", x.word(3, 0), NONE);
        due(12, "none such", x.word(-1, 0), NONE);
        due(12, "none such", x.word(0, 1), NONE);
        due(12, "none such", x.word(0, -1), NONE);
        due(13, "none such", x.choice(1, 0), NONE);
        due(13, "none such", x.choice(-1, 0), NONE);
        due(13, "no what", x.choice(0, 2), NONE);
        due(13, "no what", x.choice(0, -1), NONE);
        BlindColours stable = of(TALK);
        for (int i = 0; i < 3; i++) {
            due(12, "asking changes nothing", stable.word(1, 0), 1);
            due(13, "asking changes nothing", stable.choice(0, 1), 3);
        }
    }

    private static void p14to16() {
        BlindColours x = of(SMALL);
        int[] t = {NONE, 1, 1, 1, 1};
        int[] u = {NONE, NONE, 0, 0, 0};
        int[] purse = {0, 6, 10, 19, 28};
        int[] mood = {5, 6, 7, 8, 9};
        for (int n = 0; n < 5; n++) {
            due(14, "t behind " + n, x.later(0, n), t[n]);
            due(14, "u behind " + n, x.later(1, n), u[n]);
            due(15, "mood behind " + n, x.mood(0, n), mood[n]);
            due(16, "purse behind " + n, x.purse(n), purse[n]);
        }
        due(14, "behind 40", x.later(1, 40), 0);
        due(15, "behind 40", x.mood(0, 40), 9);
        due(16, "behind 40", x.purse(40), 352);
        due(16, "nothing has changed", x.has(4), 0);
        for (int bad : new int[] {-1, 41, Integer.MAX_VALUE, Integer.MIN_VALUE}) {
            due(14, "no n", x.later(0, bad), NONE);
            due(15, "no n", x.mood(0, bad), NONE);
            due(16, "no n", x.purse(bad), NONE);
        }
        due(14, "none such", x.later(2, 1), NONE);
        due(14, "none such", x.later(-1, 1), NONE);
        due(15, "none such", x.mood(1, 1), NONE);
        due(15, "none such", x.mood(-1, 1), NONE);
        due(14, "image", on(x, 3, 221, 0, 0, 0, 5, 255, 255), true);
        due(16, "year 989", x.purse(10), 82);
        due(16, "beyond year 999", x.purse(11), NONE);
        due(14, "beyond year 999", x.later(0, 11), NONE);
        due(15, "beyond year 999", x.mood(0, 11), NONE);
        due(14, "up to year 999", x.later(0, 10), 1);
        due(15, "up to year 999", x.mood(0, 10), 9);
        purses();
        moods();
    }

    private static void purses() {
        due(16, "99 at most", of("gives 100;").purse(1), 99);
        due(16, "0 at least", of("purse 5;gives 0-1;").purse(3), 5);
        due(16, "98", of("gives 98;").purse(2), 196);
        due(16, "by the year", of("gives year;").purse(5), 10);
        due(16, "by the purse", of("purse 3;gives purse;").purse(3), 24);
        due(16, "by bare things", of(SMALL + "gives bare * 7;").purse(1), 11);
        due(16, "by bare things", of(SMALL + "gives bare * 7;").purse(2), 13);
        BlindColours rich = of("gives 50;");
        rich.fill(9960);
        due(16, "9999 at most", rich.purse(1), 9999);
        due(16, "9999 at most", rich.purse(7), 9999);
        // r costs 5 of 4: u waits till year 3.
        BlindColours poor = of(SMALL + "gives if(year<2,2,1);");
        int[] want = {2, 4, 2, 3, 4, 0};
        for (int n = 1; n <= 5; n++) {
            due(16, "too dear " + n, poor.purse(n), new int[] {2, 4, 2, 3, 4}[n - 1]);
        }
        due(14, "too dear at first", poor.later(1, 2), NONE);
        due(14, "too dear at first", poor.later(1, 4), NONE);
        due(14, "paid then", poor.later(1, 6), 0);
        due(16, "paid then", poor.purse(6), want[5]);
        due(15, "a choice all the same", poor.mood(0, 2), 7);
        due(16, "as much as is there", of(SMALL + "gives 3;").purse(1), 0);
        due(14, "as much as is there", of(SMALL + "gives 3;").later(0, 1), 1);
        due(14, "less than is asked", of(SMALL + "gives 2;").later(0, 1), NONE);
    }

    private static void moods() {
        // y, z count no more: x alone is heard, they say what they like, and their words are not chosen.
        BlindColours x = of(TALK + "late x;counts late = 1;");
        // y hears r (50) ahead of b (18): r; z says g (81).
        due(15, "chosen", x.mood(0, 1), 6);
        due(15, "his word was chosen, it did not count", x.mood(1, 1), 6);
        due(15, "another word", x.mood(2, 1), 4);
        due(15, "9 at most", x.mood(1, 40), 9);
        due(15, "0 at least", x.mood(2, 5), 0);
        due(15, "0 at least", x.mood(2, 40), 0);
        due(15, "without a choice", of(TALK + "counts not all;").mood(0, 9), 5);
        due(15, "without things", of("blind a warm 1 loud 1 deep 1;colour c warm 1 loud 1 deep 1 cost 0;").mood(0, 9), 5);
    }

    private static void p17to19() {
        BlindColours x = of(TALK);
        // The first one who is asked tells the word of all.
        for (int c = 0; c < 3; c++) {
            due(18, "orders", x.orders(0, c), 2);
        }
        int[][] first = {{0, 1, 2}, {1, 0, 2}, {2, 0, 1}};
        for (int c = 0; c < 3; c++) {
            for (int k = 0; k < 3; k++) {
                due(17, "order", x.order(0, c, k), first[c][k]);
            }
        }
        x.swap(0, 2);
        due(17, "whatever the order is now", x.order(0, 0, 0), 0);
        due(18, "whatever the order is now", x.orders(0, 0), 2);
        x.undo();
        BlindColours sure = of(SMALL);
        due(17, "no order", sure.order(0, 0, 0), NONE);
        due(17, "the one order", sure.order(0, 1, 0), 0);
        due(18, "none", sure.orders(0, 0), 0);
        due(18, "one", sure.orders(0, 1), 1);
        int[][] bad = {{1, 0, 0}, {-1, 0, 0}, {0, 3, 0}, {0, -1, 0}, {0, 0, 3}, {0, 0, -1}};
        for (int i = 0; i < bad.length; i++) {
            due(17, "none such", x.order(bad[i][0], bad[i][1], bad[i][2]), NONE);
            if (i < 4) {
                due(18, "none such", x.orders(bad[i][0], bad[i][1]), NONE);
            }
        }
        BlindColours nobody = of("colour c warm 1 loud 1 deep 1 cost 0;thing t warm 1 loud 1 deep 1;");
        due(17, "nobody", nobody.order(0, 0, 0), NONE);
        due(18, "nobody", nobody.orders(0, 0), 0);
        // Without y: {} -> r, {y} b -> r (x first), {z} g -> r, {y z} b -> r: x turns each set.
        due(19, "x turns all", x.power(0, 0), 4);
        due(19, "y turns two", x.power(1, 0), 2);
        due(19, "z turns one", x.power(2, 0), 1);
        x.swap(0, 1);
        due(19, "x turns two", x.power(0, 0), 2);
        due(19, "y turns all", x.power(1, 0), 4);
        due(19, "alone", sure.power(0, 0), 1);
        due(19, "who does not count", of(SMALL + "counts not all;").power(0, 0), 0);
        due(19, "none such", x.power(3, 0), NONE);
        due(19, "none such", x.power(-1, 0), NONE);
        due(19, "none such", x.power(0, 1), NONE);
        due(19, "none such", x.power(0, -1), NONE);
        BlindColours six = of("blind a warm 1 loud 0 deep 0;blind b warm 1 loud 0 deep 0;blind c warm 1 loud 0 deep 0;"
                + "blind d warm 1 loud 0 deep 0;blind e warm 1 loud 0 deep 0;blind f warm 0 loud 1 deep 0;"
                + "colour r warm 9 loud 0 deep 0 cost 0;colour g warm 0 loud 9 deep 0 cost 0;thing t warm 9 loud 9 deep 0;");
        due(18, "six", six.orders(0, 0), 720);
        due(18, "six", six.orders(0, 1), 0);
        due(17, "six", six.order(0, 0, 5), 5);
        due(19, "six: a is needed alone, or where f said g alone", six.power(0, 0), 2);
        due(19, "six: f is needed alone", six.power(5, 0), 1);
        BlindColours hear = of("blind a warm 1 loud 0 deep 0;blind b warm 1 loud 0 deep 0;blind c warm 1 loud 0 deep 0;"
                + "blind d warm 1 loud 0 deep 0;blind e warm 1 loud 0 deep 0;blind f warm 0 loud 1 deep 0;"
                + "colour r warm 9 loud 0 deep 0 cost 0;colour g warm 0 loud 9 deep 0 cost 0;thing t warm 9 loud 9 deep 0;"
                + "scores match + heard * 10;");
        due(18, "f first", hear.orders(0, 1), 120);
        int[] fFirst = {5, 0, 1, 2, 3, 4};
        for (int k = 0; k < 6; k++) {
            due(17, "f first", hear.order(0, 1, k), fFirst[k]);
        }
    }

    private static void p20() {
        String colours = "colour r warm 1 loud 1 deep 1 cost 99;colour g warm 1 loud 1 deep 1 cost 0;";
        String things = "thing t warm 1 loud 1 deep 1;thing u warm 1 loud 1 deep 1;thing v warm 1 loud 1 deep 1;";
        due(20, "no clash", of(colours + things + "near t u;wears t r;wears u g;").clear(), 0);
        due(20, "the least bits", of(colours + things + "near t u;wears t r;wears u r;").clear(), 1);
        due(20, "the one in the middle", of(colours + things + "near t u;near u v;wears t r;wears u r;wears v r;").clear(), 2);
        due(20, "no two colours", of(colours + things + "near t u;near u v;near t v;wears t r;wears u r;wears v r;").clear(), NONE);
        due(20, "three colours", of(colours + "colour b warm 1 loud 1 deep 1 cost 0;" + things
                + "near t u;near u v;near t v;wears t r;wears u r;wears v r;").clear(), 3);
        due(20, "one wears none", of(colours + things + "near t u;near u v;near t v;wears t r;wears v r;").clear(), 1);
        due(20, "one colour", of("colour r warm 1 loud 1 deep 1 cost 99;" + things + "near t u;wears t r;wears u r;").clear(), NONE);
        // t clashes with u, but g is worn by v near t: u is the one.
        due(20, "u is free", of(colours + things + "near t u;near t v;wears t r;wears u r;wears v g;").clear(), 2);
        BlindColours x = of(colours + things + "near t v;wears t r;wears u r;wears v r;");
        due(20, "first", x.clear(), 1);
        x.paint(0, NONE);
        due(20, "by hand", x.clear(), 0);
        due(20, "nothing has changed", x.thing(2, 3), 0);
        due(20, "both ends are fewer than three", of(colours + things + "thing w warm 1 loud 1 deep 1;near t u;near v w;"
                + "wears t r;wears u r;wears v g;wears w g;").clear(), 5);
    }

    private static void p21() {
        BlindColours x = of(TALK + "row 30;");
        // All: r. Without x: y says b, z b (50 + 0 below 81: g): of b, g the first, b. Without y: r. Without z: r.
        due(21, "all rows", x.odds(NONE), 300);
        due(21, "r", x.odds(0), 270);
        due(21, "b", x.odds(1), 30);
        due(21, "g", x.odds(2), 0);
        BlindColours never = of(TALK);
        due(21, "no rows", never.odds(0), 300);
        due(21, "no rows", never.odds(1), 0);
        due(21, "always", of(TALK + "row 100;").odds(1), 100);
        due(21, "always", of(TALK + "row 100;").odds(0), 200);
        due(21, "none counts", of(TALK + "row 50;counts not all;").odds(0), 0);
        due(21, "none counts", of(TALK + "row 50;counts not all;").odds(NONE), 300);
        due(21, "alone, who says nothing", of(SMALL + "row 40;").odds(1), 60);
        BlindColours two = of(SMALL + "row 40;");
        two.years(1);
        due(21, "the next thing", two.odds(0), 60);
        due(21, "the next thing", two.odds(1), 0);
        due(21, "none such", x.odds(3), NONE);
        due(21, "none such", x.odds(-2), NONE);
        due(21, "without blind", of("colour c warm 1 loud 1 deep 1 cost 0;thing t warm 1 loud 1 deep 1;").odds(0), NONE);
        due(21, "without blind", of("colour c warm 1 loud 1 deep 1 cost 0;thing t warm 1 loud 1 deep 1;").odds(NONE), NONE);
        due(21, "without things", of("blind a warm 1 loud 1 deep 1;colour c warm 1 loud 1 deep 1 cost 0;").odds(NONE), NONE);
        due(21, "without colours", of("blind a warm 1 loud 1 deep 1;thing t warm 1 loud 1 deep 1;").odds(NONE), 100);
        on(two, 3, 230, 0, 0, 0, 5, 255, 255);
        due(21, "year 998", two.odds(1), 60);
        on(two, 3, 231, 0, 0, 0, 5, 255, 255);
        due(21, "beyond year 999", two.odds(1), NONE);
        due(21, "beyond year 999", two.odds(NONE), NONE);
    }

    private static void p22() {
        BlindColours x = of(SMALL);
        due(22, "one row", meet(x, 30, 1, 1), 1);
        due(22, "has", x.has(8), 1);
        int[] many = new int[51];
        due(22, "16 rows", meet(x, java.util.Arrays.copyOf(many, 48)), 16);
        due(22, "17 rows", meet(x, many), NONE);
        due(22, "none", meet(x), NONE);
        due(22, "two bytes", meet(x, 0, 0), NONE);
        due(22, "four bytes", meet(x, 0, 0, 0, 0), NONE);
        due(22, "year 31", meet(x, 31, 0, 0), NONE);
        due(22, "no thing", meet(x, 0, 2, 0), NONE);
        due(22, "no colour", meet(x, 0, 0, 2), NONE);
        due(22, "254", meet(x, 0, 0, 254), NONE);
        due(22, "thing 255", meet(x, 0, 255, 0), NONE);
        due(22, "the second row", meet(x, 0, 0, 0, 31, 0, 0), NONE);
        due(22, "refused", x.status(5), 10);
        due(22, "what was met stays", x.has(8), 16);
        due(22, "none is worn", meet(x, 0, 0, 255, 30, 1, 255), 2);
        due(22, "the tape goes", x.end(1), false);
        meet(x, 0, 0, 9);
        due(22, "the tape goes, refused", x.end(1), false);
        due(22, "no land", meet(new BlindColours(), 0, 0, 255), NONE);
    }

    private static void p23() {
        // t is r (9 far from warm) or g: by a TASTE of w for warm and 4 for loud, r has 4 * 9, g has 9 * w.
        String text = "blind a warm 0 loud 4 deep 0;blind b warm 0 loud 0 deep 0;colour g warm 9 loud 9 deep 0 cost 0;"
                + "colour r warm 0 loud 0 deep 0 cost 0;thing t warm 9 loud 0 deep 0;";
        BlindColours x = of(text);
        due(23, "nothing met", x.tastes(0), 1023);
        due(23, "nobody", x.tastes(2), NONE);
        due(23, "nobody", x.tastes(-1), NONE);
        // b says g (all alike) and a: r for w < 4, g from 4 on (of like ones the first); of r, g one each the first: g.
        meet(x, 1, 0, 0);
        due(23, "b alone has it", x.tastes(0), 1023);
        meet(x, 1, 0, 1);
        due(23, "never", x.tastes(0), 0);
        BlindColours y = of(text.replace("blind b warm 0 loud 0 deep 0;", ""));
        meet(y, 1, 0, 0);
        due(23, "g from 4 on", y.tastes(0), 1023 - 15);
        meet(y, 1, 0, 1);
        due(23, "r below 4", y.tastes(0), 15);
        due(23, "his own is told still", y.word(0, 0), 1);
        meet(y, 0, 0, 255, 1, 0, 1, 30, 0, 1);
        due(23, "all rows", y.tastes(0), 15);
        meet(y, 0, 0, 255, 1, 0, 1, 2, 0, 0);
        due(23, "not both", y.tastes(0), 0);
        meet(y, 0, 0, 0);
        due(23, "not so now", y.tastes(0), 0);
        y.paint(0, 0);
        due(23, "so now", y.tastes(0), 1023);
        meet(y, 0, 0, 5);
        due(23, "the latest that was not refused", y.tastes(0), 1023);
        meet(y, 1, 0, 1);
        on(y, 3, 231, 0, 0, 0, 5, 1);
        due(23, "beyond year 999", y.tastes(0), 0);
        due(23, "met stays", y.has(8), 1);
        on(y, 3, 230, 0, 0, 0, 5, 1);
        due(23, "year 999", y.tastes(0), 15);
        on(y, 3, 231, 0, 0, 0, 5, 1);
        meet(y, 0, 0, 1);
        due(23, "now, in year 999", y.tastes(0), 1023);
        tell(y, text);
        due(23, "of this land", y.tastes(0), 1023);
        due(23, "of the other one", y.tastes(1), 1023);
        // For b, whom nothing else moves: r 0, g 9 * w: g always, so that nothing is told.
        due(23, "nothing has changed", y.has(3), 0);
    }

    private static void p24() {
        String text = "blind a warm 0 loud 4 deep 0;colour g warm 9 loud 9 deep 0 cost 20;colour r warm 0 loud 0 deep 0 cost 0;"
                + "thing n warm 0 loud 0 deep 0;thing t warm 9 loud 0 deep 0;";
        // n: r (9 w + 36) against g (0): r by all. t: g from 4 on, r below; 20 is there behind 3 years, t comes in years 1, 3.
        BlindColours x = of(text);
        due(24, "years: r by 4, nothing by 6", x.tells(0, 0), 2);
        due(24, "thing", x.tells(0, 1), 1);
        due(24, "most", x.tells(0, 2), 6);
        meet(x, 2, 1, 1);
        due(24, "four left, nothing to tell", x.tells(0, 2), 4);
        due(24, "of like ones the first", x.tells(0, 0), 1);
        due(24, "of like ones the first", x.tells(0, 1), 0);
        meet(x, 2, 1, 0);
        due(24, "none left", x.tells(0, 0), NONE);
        due(24, "none left", x.tells(0, 2), NONE);
        due(24, "nobody", x.tells(1, 0), NONE);
        due(24, "nobody", x.tells(-1, 0), NONE);
        BlindColours y = of(text);
        due(24, "no what", y.tells(0, 3), NONE);
        due(24, "no what", y.tells(0, -1), NONE);
        on(y, 3, 230, 0, 0, 0, 5, 255, 255);
        // Year 998: n is asked for, then no year comes.
        due(24, "one year more", y.tells(0, 0), 1);
        due(24, "one year more", y.tells(0, 1), 0);
        due(24, "one year more", y.tells(0, 2), 10);
        on(y, 3, 229, 0, 0, 0, 5, 255, 255);
        due(24, "two years more", y.tells(0, 0), 1);
        due(24, "two years more", y.tells(0, 1), 1);
        due(24, "two years more", y.tells(0, 2), 6);
        on(y, 3, 231, 0, 0, 0, 5, 255, 255);
        due(24, "no year comes", y.tells(0, 0), NONE);
        due(24, "without things", of("blind a warm 1 loud 1 deep 1;").tells(0, 0), NONE);
        // The rich one is painted by 4 g and by the others r in year 30 only, when all is heard.
        BlindColours late = of(text.replace("cost 0;thing n", "cost 0;scores if(year<29,0,match);thing n"));
        due(24, "behind 30 years", late.tells(0, 0), 30);
        due(24, "behind 30 years", late.tells(0, 2), 6);
        late = of(text.replace("cost 0;thing n", "cost 0;scores if(year<30,0,match);thing n"));
        due(24, "not behind 31", late.tells(0, 0), 1);
        due(24, "not behind 31", late.tells(0, 2), 10);
    }

    private static void p25() {
        BlindColours x = of(SMALL);
        due(25, "none", x.years(0), NONE);
        due(25, "below", x.years(-1), NONE);
        due(25, "41", x.years(41), NONE);
        due(25, "as many as can't be", x.years(Integer.MAX_VALUE), NONE);
        due(25, "refused", x.status(2), 4);
        due(25, "all stays", x.has(9), 0);
        due(25, "three", x.years(3), 2);
        due(25, "year", x.has(3), 3);
        due(25, "purse", x.has(4), 19);
        due(25, "t", x.thing(0, 3), 1);
        due(25, "u", x.thing(1, 3), 0);
        due(25, "mood", x.blind(0, 4), 8);
        due(25, "one act", x.has(9), 1);
        due(25, "forty", x.years(40), 0);
        on(x, 3, 230, 0, 0, 0, 5, 255, 255);
        due(25, "beyond", x.years(2), NONE);
        due(25, "year 998", x.years(1), 1);
        due(25, "year 999", x.has(3), 999);
        due(25, "beyond", x.years(1), NONE);
        due(25, "a thing counts each time", of("blind a warm 0 loud 0 deep 0;colour r warm 0 loud 0 deep 0 cost 0;"
                + "colour g warm 0 loud 0 deep 0 cost 0;thing t warm 0 loud 0 deep 0;scores 0-worn;").years(7), 7);
    }

    private static void p26() {
        BlindColours x = of(SMALL + "row 100;");
        due(26, "none", x.chance(0), NONE);
        due(26, "41", x.chance(41), NONE);
        due(26, "refused", x.status(2), 2);
        due(26, "no draw", x.has(10), 1);
        due(26, "always a quarrel", x.chance(3), 3);
        due(26, "he says nothing", x.thing(0, 3), NONE);
        due(26, "no choice, no mood", x.blind(0, 4), 5);
        due(26, "one act", x.has(9), 1);
        due(26, "year", x.has(3), 3);
        due(26, "purse", x.has(4), 27);
        long seed = 1;
        for (int i = 0; i < 6; i++) {
            seed = (1103515245L * seed + 12345) % (1L << 31);
        }
        due(26, "two draws a year", x.has(10), seed);
        BlindColours never = of(SMALL);
        due(26, "no rows", never.chance(2), 0);
        due(26, "as without", never.has(4), 10);
        // 1103527590; 2524885223 mod 2^31 = 377401575
        due(26, "one draw a year", never.has(10), 377401575L);
        // The first draw by the seed 1: 1103527590 / 64 = 17242618, so 18; the second 5896899, so 99.
        due(26, "18 is below 19", of(SMALL + "row 19;").chance(1), 1);
        due(26, "18 is not below 18", of(SMALL + "row 18;").chance(1), 0);
        BlindColours three = of(TALK + "row 19;");
        // Then of three: 5896899 mod 3 = 0: x says nothing; y says b, z g: b is chosen.
        due(26, "one quarrel", three.chance(1), 1);
        due(26, "b", three.thing(0, 3), 1);
        due(26, "who said nothing", three.blind(0, 4), 4);
        due(26, "who was chosen", three.blind(1, 4), 6);
        due(26, "another word", three.blind(2, 4), 4);
        due(26, "kept", three.kept(0, 2), 1);
        BlindColours nobody = of("row 100;thing t warm 1 loud 1 deep 1;");
        due(26, "without blind", nobody.chance(2), 0);
        due(26, "without blind one draw", nobody.has(10), 377401575L);
        BlindColours empty = of("row 100;blind a warm 1 loud 1 deep 1;");
        due(26, "without things", empty.chance(2), 2);
        on(x, 3, 230, 0, 0, 0, 5, 255, 255);
        due(26, "beyond", x.chance(2), NONE);
        due(26, "year 998", x.chance(1), 1);
        due(26, "beyond", x.chance(1), NONE);
    }

    private static void p27to29() {
        BlindColours x = of(SMALL);
        due(27, "paint", x.paint(0, 0), true);
        due(27, "r", x.thing(0, 3), 0);
        due(27, "for nothing", x.has(4), 0);
        due(27, "not kept", x.has(7), 0);
        due(27, "so already", x.paint(0, 0), false);
        due(27, "another one", x.paint(0, 1), true);
        due(27, "none", x.paint(0, NONE), true);
        due(27, "none already", x.paint(0, NONE), false);
        due(27, "no colour", x.paint(0, 2), false);
        due(27, "no colour", x.paint(0, -2), false);
        due(27, "no thing", x.paint(2, 0), false);
        due(27, "no thing", x.paint(-1, 0), false);
        due(27, "refused", x.status(3), 6);
        due(27, "acts", x.has(9), 3);
        BlindColours y = of(TALK);
        due(28, "swap", y.swap(0, 2), true);
        for (int b = 0; b < 3; b++) {
            due(28, "place", y.blind(b, 5), 2 - b);
        }
        due(28, "places, not blind", y.swap(0, 1), true);
        due(28, "1 first", y.blind(1, 5), 0);
        due(28, "then 2", y.blind(2, 5), 1);
        due(28, "one", y.swap(1, 1), false);
        due(28, "none such", y.swap(0, 3), false);
        due(28, "none such", y.swap(3, 0), false);
        due(28, "none such", y.swap(-1, 0), false);
        due(28, "none such", y.swap(0, -1), false);
        due(28, "refused", y.status(3), 5);
        due(28, "acts", y.has(9), 2);
        due(29, "fill", y.fill(9999), true);
        due(29, "purse", y.has(4), 9999);
        due(29, "that already", y.fill(9999), false);
        due(29, "more", y.fill(10000), false);
        due(29, "below 0", y.fill(-1), false);
        due(29, "nothing", y.fill(0), true);
        due(29, "purse", y.has(4), 0);
        due(29, "refused", y.status(3), 8);
        due(29, "acts", y.has(9), 4);
    }

    private static void p30() {
        BlindColours x = of(SMALL + "blind b warm 0 loud 0 deep 0;row 50;wears u g;");
        due(30, "nothing yet", x.undo(), false);
        due(30, "refused", x.status(4), 1);
        x.image();
        int[] before = new int[14];
        for (int k = 0; k < 14; k++) {
            before[k] = x.octet(k);
        }
        x.years(7);
        x.paint(1, NONE);
        x.swap(0, 1);
        x.fill(500);
        x.chance(9);
        int kept = x.has(7);
        int seed = x.has(10);
        x.years(30);
        due(30, "the latest", x.undo(), true);
        due(30, "kept", x.has(7), kept);
        due(30, "year", x.has(3), 16);
        for (int i = 0; i < 5; i++) {
            due(30, "acts", x.has(9), 5 - i);
            due(30, "each", x.undo(), true);
        }
        due(30, "no more", x.undo(), false);
        due(30, "kept", x.has(7), 0);
        due(30, "but the seed", x.has(10), seed);
        x.image();
        for (int k = 0; k < 14; k++) {
            due(30, "as it was", x.octet(k), before[k]);
        }
        for (int i = 1; i <= 25; i++) {
            x.fill(i);
        }
        due(30, "the last 20", x.has(9), 20);
        for (int i = 24; i >= 5; i--) {
            due(30, "back", x.undo(), true);
            due(30, "purse", x.has(4), i);
        }
        due(30, "no more than 20", x.undo(), false);
        meet(x, 0, 0, 255);
        x.fill(77);
        x.undo();
        due(30, "met stays", x.has(8), 1);
    }

    private static void p31() {
        BlindColours x = new BlindColours();
        due(31, "seed", x.seed(0), true);
        due(31, "seed", x.has(10), 0);
        x.chance(1);
        due(31, "by the seed 0", x.has(10), 12345);
        due(31, "the greatest", x.seed(Integer.MAX_VALUE), true);
        x.chance(1);
        // (2^31 - 1) a + c = c - a mod 2^31
        due(31, "by the greatest", x.has(10), 12345L - 1103515245L + (1L << 31));
        due(31, "below 0", x.seed(-1), false);
        due(31, "below 0", x.seed(Integer.MIN_VALUE), false);
        due(31, "stays", x.has(10), 12345L - 1103515245L + (1L << 31));
        due(31, "refused", x.status(5), 2);
        due(31, "no act", x.has(9), 2);
    }

    private static void p32() {
        BlindColours x = of(SMALL);
        x.years(5);
        int[][] want = {{0, 0, 1}, {1, 1, 0}};
        for (int k = 0; k < 2; k++) {
            for (int what = 0; what < 3; what++) {
                due(32, "kept", x.kept(k, what), want[k][what]);
            }
        }
        due(32, "none such", x.kept(2, 0), NONE);
        due(32, "none such", x.kept(-1, 0), NONE);
        due(32, "no what", x.kept(0, 3), NONE);
        due(32, "no what", x.kept(0, -1), NONE);
        BlindColours each = of("blind a warm 0 loud 0 deep 0;colour r warm 0 loud 0 deep 0 cost 0;"
                + "colour g warm 0 loud 0 deep 0 cost 0;thing t warm 0 loud 0 deep 0;scores 0-worn;");
        each.years(40);
        due(32, "40", each.has(7), 40);
        due(32, "the oldest", each.kept(0, 0), 0);
        each.years(3);
        due(32, "the last 40", each.has(7), 40);
        due(32, "the oldest", each.kept(0, 0), 3);
        due(32, "its colour", each.kept(0, 2), 1);
        due(32, "the latest", each.kept(39, 0), 42);
        due(32, "its colour", each.kept(39, 2), 0);
        due(32, "none such", each.kept(40, 0), NONE);
        each.undo();
        due(32, "behind an undo", each.kept(0, 0), 0);
        due(32, "behind an undo", each.kept(39, 0), 39);
    }

    private static void p33and34() {
        BlindColours x = of(TALK + "wears t g;thing u warm 0 loud 0 deep 0;");
        due(34, "none yet", x.octet(0), NONE);
        x.fill(9999);
        x.swap(0, 1);
        on(x, 3, 21, 39, 15, 1, 0, 2, 9, 0, 4, 2, 255);
        due(33, "bytes", x.image(), 13);
        int[] want = {3, 21, 39, 15, 1, 0, 2, 9, 0, 4, 2, 255, 0};
        int c = 229;
        for (int k = 0; k < 12; k++) {
            c = (5 * c + want[k]) % 251;
        }
        want[12] = c;
        for (int k = 0; k < 13; k++) {
            due(33, "byte " + k, x.octet(k), want[k]);
        }
        due(34, "none such", x.octet(13), NONE);
        due(34, "none such", x.octet(-1), NONE);
        x.fill(1);
        due(34, "of the latest image", x.octet(2), 39);
        due(33, "again", x.image(), 13);
        due(34, "another purse", x.octet(2), 0);
        due(34, "another purse", x.octet(3), 1);
        for (int year : new int[] {0, 1, 254, 255, 256, 257, 511, 512, 767, 768, 999}) {
            on(x, year / 256, year % 256, year / 256, year % 256, 0, 1, 2, 0, 0, 0, 255, 255);
            due(33, "year " + year, x.has(3), year);
            due(33, "purse " + year, x.has(4), year);
            x.image();
            for (int k = 0; k < 4; k++) {
                due(34, "year and purse " + year, x.octet(k), k % 2 == 0 ? year / 256 : year % 256);
            }
        }
        BlindColours none = new BlindColours();
        due(33, "no land", none.image(), 5);
        due(34, "its last byte", none.octet(4), 55);
        due(34, "no more", none.octet(5), NONE);
    }

    private static void p35() {
        BlindColours x = of(TALK + "thing u warm 0 loud 0 deep 0;");
        x.years(3);
        x.seed(5);
        meet(x, 0, 0, 0);
        int[] good = {3, 231, 39, 15, 2, 0, 1, 9, 0, 4, 2, 255};
        due(35, "on", on(x, good), true);
        due(35, "year", x.has(3), 999);
        due(35, "purse", x.has(4), 9999);
        due(35, "order", x.blind(2, 5), 0);
        due(35, "order", x.blind(0, 5), 1);
        due(35, "mood", x.blind(0, 4), 9);
        due(35, "mood", x.blind(1, 4), 0);
        due(35, "wears", x.thing(0, 3), 2);
        due(35, "wears none", x.thing(1, 3), NONE);
        due(35, "nothing kept", x.has(7), 0);
        due(35, "no act", x.has(9), 0);
        due(35, "seed stays", x.has(10), 5);
        due(35, "met stays", x.has(8), 1);
        due(35, "the tape goes", x.end(1), false);
        x.fill(7);
        int[][] bad = {{3, 232, 0, 0, 2, 0, 1, 9, 0, 4, 2, 255}, {4, 0, 0, 0, 2, 0, 1, 9, 0, 4, 2, 255},
            {0, 0, 39, 16, 2, 0, 1, 9, 0, 4, 2, 255}, {0, 0, 40, 0, 2, 0, 1, 9, 0, 4, 2, 255},
            {0, 0, 0, 0, 2, 0, 2, 9, 0, 4, 2, 255}, {0, 0, 0, 0, 2, 0, 3, 9, 0, 4, 2, 255},
            {0, 0, 0, 0, 0, 1, 2, 10, 0, 4, 2, 255}, {0, 0, 0, 0, 0, 1, 2, 0, 0, 10, 2, 255},
            {0, 0, 0, 0, 0, 1, 2, 0, 0, 4, 3, 255}, {0, 0, 0, 0, 0, 1, 2, 0, 0, 4, 2, 254},
            {0, 0, 0, 0, 0, 1, 2, 0, 0, 4, 2}, {0, 0, 0, 0, 0, 1, 2, 0, 0, 4, 2, 1, 1}, {}};
        int refused = x.status(5);
        for (int[] b : bad) {
            due(35, java.util.Arrays.toString(b), on(x, b), false);
        }
        write(x, 0, 0, 0, 0, 0, 1, 2, 0, 0, 4, 2, 1, 99);
        due(35, "another last byte", x.on(), false);
        due(35, "no tape", x.on(), false);
        due(35, "refused", x.status(5), refused + bad.length + 2);
        due(35, "all stays", x.has(4), 7);
        due(35, "all stays", x.has(3), 999);
        due(35, "acts stay", x.has(9), 1);
        due(35, "the tape goes, refused", x.end(1), false);
        BlindColours none = new BlindColours();
        write(none, 0, 0, 0, 0, 55);
        due(35, "no land", none.on(), true);
    }

    private static void p36() {
        BlindColours x = of(SMALL);
        for (int what = 0; what < 6; what++) {
            due(36, "none", x.status(what), 0);
        }
        due(36, "no what", x.status(6), NONE);
        due(36, "no what", x.status(-1), NONE);
        x.end(-1);
        tell(x, "x");
        tell(x, "y");
        for (int i = 0; i < 3; i++) {
            x.years(0);
        }
        x.fill(0);
        x.swap(0, 0);
        x.paint(9, 0);
        x.paint(9, 9);
        for (int i = 0; i < 5; i++) {
            x.undo();
        }
        x.seed(-1);
        x.seed(-2);
        x.on();
        x.on();
        x.meet();
        x.meet();
        for (int what = 0; what < 6; what++) {
            due(36, "status " + what, x.status(what), what + 1);
        }
        tell(x, SMALL);
        due(36, "a land changes none of it", x.status(5), 6);
    }

    public static void main(String[] args) {
        p1();
        p2and3();
        p4();
        p5();
        p6();
        p7();
        p8();
        p9and10();
        p11();
        p12and13();
        p14to16();
        p17to19();
        p20();
        p21();
        p22();
        p23();
        p24();
        p25();
        p26();
        p27to29();
        p30();
        p31();
        p32();
        p33and34();
        p35();
        p36();
        finish();
    }
}
