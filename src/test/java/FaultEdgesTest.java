/** The edges of promise 5: what is a LAND and what is not, FAULT by FAULT, at each place of a text. */
public final class FaultEdgesTest extends Checks {
    private static final String[] OWN_WORDS = ("blind warm loud deep colour cost thing late near wears purse row scores counts "
            + "gives year mood match worn heard bare if or and not all min max").split(" ");

    // A text in which all that can be told is told, a blank between any two.
    private static final String WHOLE = "blind a warm 1 loud 2 deep 3 ; colour c warm 1 loud 2 deep 3 cost 4 ; thing t warm 1 loud 2 deep 3 ; "
            + "thing u warm 1 loud 2 deep 3 ; late a ; near t u ; wears t c ; purse 5 ; row 6 ; "
            + "scores min ( match , 1 ) + max ( 2 , worn ) * if ( not all and [ 1 < 2 or 2 > 1 ] , heard , cost ) - year / mood % late ; "
            + "counts all or year = 5 ; gives purse + bare ;";

    // One of the BLIND a, one COLOUR c, two THINGS t, u.
    private static final String TWO = "blind a warm 1 loud 2 deep 3;colour c warm 0 loud 0 deep 0 cost 0;thing t warm 1 loud 1 deep 1;"
            + "thing u warm 1 loud 1 deep 1;";

    private static boolean isOneOf(String word, String words) {
        return (" " + words + " ").contains(" " + word + " ");
    }

    // ---- what fault() tells

    private static void whatItTells() {
        BlindColours x = new BlindColours();
        for (int what : new int[] {-1, 2, LEAST, GREATEST}) {
            due(5, "fault(" + what + ")", x.fault(what), NONE);
        }
        due(5, "ahead of any", x.fault(0), 0);
        due(5, "ahead of any", x.fault(1), NONE);
        tell(x, "row 5;!");
        due(5, "a FAULT", x.fault(0), 1);
        due(5, "its place", x.fault(1), 6);
        for (int what : new int[] {-1, 2, LEAST, GREATEST}) {
            due(5, "fault(" + what + ") behind a FAULT", x.fault(what), NONE);
        }
    }

    private static void ofTheLatestLand() {
        BlindColours x = new BlindColours();
        tell(x, "row 5;row 101;");
        due(5, "the first one", x.fault(0), 4);
        due(5, "its place", x.fault(1), 10);
        x.end(9);
        x.undo();
        x.years(0);
        meet(x, 1, 2, 3);
        on(x, 1, 2, 3);
        x.years(1);
        due(5, "no other call changes it", x.fault(0), 4);
        due(5, "nor its place", x.fault(1), 10);
        tell(x, "late a;");
        due(5, "the second one", x.fault(0), 3);
        due(5, "its place", x.fault(1), 5);
        due(5, "without a FAULT", x.land(), 0);
        due(5, "none", x.fault(0), 0);
        due(5, "no place", x.fault(1), NONE);
    }

    private static void theFirstAlongTheText() {
        faulty(5, "row @101;row x;late b;", 4);
        faulty(5, "row @x;row 101;", 1);
        faulty(5, "late @b;row 101;gives 1;gives 2;", 3);
        faulty(5, TWO + "blind @a warm 10;", 2);
        faulty(5, TWO + "blind b warm @10 loud 10;", 4);
        faulty(5, TWO + "near @x y;", 3);
        faulty(5, TWO + "wears @x y;", 3);
        faulty(5, "gives 1;@gives ((((((((1", 6);
        faulty(5, "gives (((((((@(x", 5);
        faulty(5, "gives ((((((@x((", 1);
        faulty(5, blinds(6) + "@blind a warm 10;", 6);
        faulty(5, "row 1;".repeat(60) + "@row 101;", 6);
        faulty(5, "row 1;".repeat(59) + "row @101;row 1;", 4);
        faulty(5, "row @101", 4);
        faulty(5, "late @b", 3);
    }

    // ---- 1: what a LAND does not go on with

    /** "at the text's length, if it ends too soon": ahead of each word, number and sign, and behind blanks. */
    private static void endsTooSoon() {
        String[] all = WHOLE.split(" ");
        StringBuilder told = new StringBuilder();
        int statements = 0;
        for (String one : all) {
            told.append(one);
            statements += one.equals(";") ? 1 : 0;
            if (one.equals(";")) {
                good(5, told.toString(), statements);
                good(5, told + "  \n", statements);
            } else {
                faulty(5, told.toString(), 1, told.length());
                faulty(5, told + " ", 1, told.length() + 1);
                faulty(5, told + "\n\n ", 1, told.length() + 3);
            }
            told.append(' ');
        }
    }

    /** "a 7th letter, a 5th digit at itself, whatever may stand there". */
    private static void seventhLetterFifthDigit() {
        String[] all = WHOLE.split(" ");
        StringBuilder told = new StringBuilder();
        for (String one : all) {
            faulty(5, told + "abcdef@g" + "h " + one, 1);
            faulty(5, told + "colour@s " + one, 1);
            faulty(5, told + "1234@5" + " " + one, 1);
            faulty(5, told + "0000@0" + "00" + one, 1);
            told.append(one).append(' ');
        }
        good(5, "thing abcdef warm 0001 loud 0002 deep 0009;", 1);
        good(5, "gives 1000+0000+9999;", 1);
        faulty(5, "thing abcdef@g warm 1 loud 1 deep 1;", 1);
        faulty(5, "gives 9999@9;", 1);
        faulty(5, "row 0000@1;", 1);
        faulty(5, "row 1234@5;", 1);
    }

    /** "words and numbers whole, at their first byte": where a sign, a number or a NAME must be, and others. */
    private static void wholeAtTheirFirstByte() {
        faulty(5, "@x", 1);
        faulty(5, "@blin", 1);
        faulty(5, "@blinds", 1);
        faulty(5, "@rows 1;", 1);
        faulty(5, "@5;", 1);
        faulty(5, "@;", 1);
        faulty(5, "row 1;@;", 1);
        faulty(5, "row 1 @row 1;", 1);
        faulty(5, "row @row 1;", 1);
        faulty(5, "row @x;", 1);
        faulty(5, "row @;", 1);
        faulty(5, "row 1 @2;", 1);
        faulty(5, "blind @5 warm 1", 1);
        faulty(5, "blind @; warm 1", 1);
        faulty(5, "blind a @loud 1 warm 2 deep 3;", 1);
        faulty(5, "blind a warm 1 @deep 1 loud 3;", 1);
        faulty(5, "blind a warm 1 loud 1 @warm 3;", 1);
        faulty(5, "blind a warm 1 loud 1 deep 1 @cost 1;", 1);
        faulty(5, "thing a warm 1 loud 1 deep 1 @cost 1;", 1);
        faulty(5, "colour a warm 1 loud 1 deep 1@;", 1);
        faulty(5, "colour a warm 1 loud 1 deep 1 cost @;", 1);
        faulty(5, "blind a warm @loud 1 deep 1;", 1);
        faulty(5, "blind a warm @-1 loud 1 deep 1;", 1);
        faulty(5, "blind a@;", 1);
        faulty(5, TWO + "late @;", 1);
        faulty(5, TWO + "late a @a;", 1);
        faulty(5, TWO + "near t@;", 1);
        faulty(5, TWO + "near t@,u;", 1);
        faulty(5, TWO + "near t u @t;", 1);
        faulty(5, TWO + "wears t@;", 1);
        faulty(5, TWO + "wears t @5;", 1);
        faulty(5, TWO + "wears t c @c;", 1);
        faulty(5, "gives @;", 1);
        faulty(5, "counts @;", 1);
        faulty(5, "scores @;", 1);
    }

    /** Each sign of sums and tests where it may not stand. */
    private static void signsInSums() {
        for (String s : new String[] {"@+1", "@-1", "1+@", "1+@+1", "1*@/1", "1@(2)", "(@)", "(1@", "1@)", "(1@]", "(1@,2)", "min @1,2)",
            "min(@,2)", "min(1@)", "min(1,@)", "min(1,2@,3)", "min(1,2@", "max(1@]", "max(1@)", "max@", "if(1@,2,3)", "if(all@)",
            "if(all,1@)", "if(all,1,@)", "if(all,1,2@,3)", "if(1<2@<3,1,2)", "if(all @all,1,2)", "if(1+@,1,2)", "1@<2", "1@=2", "1@>2",
            "@[1]", "1@]", "@all", "@not 1", "1 @and 1", "1 @or 1", "if(@and all,1,2)", "if(all or@,1,2)", "if([all@,1,2)",
            "if([all@),1,2)", "if([@],1,2)", "if((@all),1,2)", "if((1@<2),1,2)", "if(not@,1,2)", "@x", "1 @x", "@%2"}) {
            faulty(5, "gives " + s + ";", 1);
        }
        for (String s : new String[] {"1@", "(@all)", "1<@", "1<@<2", "1+2@", "[all@", "[@]", "all@]", "all @all", "all@<1", "all@+1",
            "not@", "all and@", "@or all", "1=2@=3", "1<2+@", "min(1,2)@", "[1@]", "1@,2", "all@,all"}) {
            faulty(5, "counts " + s + ";", 1);
        }
    }

    /** No byte but blanks, small letters, digits and the signs goes on with a LAND anywhere. */
    private static void eachByte() {
        for (int b = 0; b < 256; b++) {
            char c = (char) b;
            if (b == 10 || b == 32) {
                good(5, c + "row 1;", 1);
                good(5, "row" + c + "1;", 1);
                good(5, "row 1" + c + ";", 1);
                good(5, "row 1;" + c, 1);
                good(5, "gives 1" + c + "+" + c + "2;", 1);
                continue;
            }
            boolean digit = c >= '0' && c <= '9';
            boolean letter = c >= 'a' && c <= 'z';
            faulty(5, c + "row 1;", 1, 0);
            faulty(5, "row 1;" + c, 1, 6);
            if (!digit) {
                faulty(5, "row " + c + " ", 1, 4);
            }
            if (c != ';') {
                faulty(5, "row 1 " + c, 1, 6);
                boolean goesOn = digit || c == '+' || c == '-' || c == '*' || c == '/' || c == '%';
                faulty(5, "gives 1" + c, 1, goesOn ? 8 : 7);
                faulty(5, letter ? "counts all " + c : "counts all" + c, 1, letter ? 11 : 10);
            }
        }
    }

    private static void lettersAndDigits() {
        for (char c = 'a'; c <= 'z'; c++) {
            good(5, "thing " + c + " warm 1 loud 1 deep 1;", 1);
            good(5, "thing x" + c + " warm 1 loud 1 deep 1;", 1);
        }
        for (char c : new char[] {'`', '{', 'A', 'Z', '_', '\'', '.', '\u00e4', '\u00ff'}) {
            faulty(5, "thing @" + c + " warm", 1);
            faulty(5, "thing a@" + c + " warm", 1);
            faulty(5, "@r" + c + "ow 1;", 1);
            faulty(5, "row@" + c + "1;", 1);
        }
        for (char c = '0'; c <= '9'; c++) {
            good(5, "row " + c + ";", 1);
        }
        faulty(5, "row 1@:;", 1);
        faulty(5, "row 1@/;", 1);
        faulty(5, "row @:;", 1);
        faulty(5, "thing a@1 warm", 1);
        faulty(5, "thing @1a warm", 1);
    }

    /** "Blanks (10, 32) are where one likes (words and numbers side by side need one)". */
    private static void blanks() {
        good(5, WHOLE, 12);
        good(5, WHOLE.replace(" ", "\n"), 12);
        good(5, " " + WHOLE.replace(" ", " \n "), 12);
        good(5, WHOLE.replaceAll(" ?([-+*/%(),;\\[\\]<>=]) ?", "$1"), 12);
        faulty(5, "row@1;", 1);
        faulty(5, "row 1@row", 1);
        faulty(5, "gives 1@year", 1);
        faulty(5, "gives year@1", 1);
        faulty(5, "blind a warm@1 loud", 1);
        faulty(5, "blind a warm 1@loud", 1);
        faulty(5, "counts 1<2@and all;", 1);
        faulty(5, "counts all and@1<2;", 1);
        faulty(5, "counts not@1<2;", 1);
        faulty(5, "counts @notall;", 1);
        faulty(5, "counts @allall;", 1);
        faulty(5, "gives 1 @1;", 1);
        faulty(5, "row@\t1;", 1);
        faulty(5, "row@\r\n1;", 1);
        good(5, "counts not[all]and[not(1)<2]or(1)<min(1,2)and all;", 1);
        faulty(5, "row 1 @0;", 1);
        faulty(5, "@ro w 1;", 1);
        faulty(5, "@r ow 1;", 1);
    }

    /** "an OWN WORD where a NAME must be". */
    private static void ownWordsAreNoNames() {
        for (String word : OWN_WORDS) {
            for (String ahead : new String[] {"blind ", "colour ", "thing "}) {
                faulty(5, ahead + "@" + word + " warm 1 loud 1 deep 1;", 1);
                faulty(5, TWO + ahead + "@" + word, 1);
            }
            for (String ahead : new String[] {"late ", "near ", "near t ", "wears ", "wears t "}) {
                faulty(5, TWO + ahead + "@" + word + ";", 1);
            }
            String less = word.substring(0, word.length() - 1);
            String more = word + "z";
            if (!less.isEmpty() && !isOneOf(less, String.join(" ", OWN_WORDS))) {
                good(5, "thing " + less + " warm 1 loud 1 deep 1;", 1);
            }
            if (more.length() <= 6) {
                good(5, "thing " + more + " warm 1 loud 1 deep 1;", 1);
                good(5, "thing z" + word + " warm 1 loud 1 deep 1;", 1);
            }
        }
        for (String name : "sum part test fact both sign product choice score word order met kept by draw name n".split(" ")) {
            if (name.length() <= 6) {
                good(5, "thing " + name + " warm 1 loud 1 deep 1;", 1);
            }
        }
    }

    /** What may stand as a PART of each sum, what a STATEMENT may begin with, what may follow a whole PART or FACT. */
    private static void eachOwnWordInEachPlace() {
        String begins = "blind colour thing late near wears purse row scores counts gives";
        String opens = "min max if";
        for (String word : OWN_WORDS) {
            if (!isOneOf(word, begins)) {
                faulty(5, "@" + word + " 1;", 1);
            } else {
                faulty(5, word, 1, word.length());
            }
            part("scores ", word, "year mood late match worn heard cost", opens);
            part("scores 1+", word, "year mood late match worn heard cost", opens);
            part("counts ", word, "year mood late", opens + " not all");
            part("counts 1<", word, "year mood late", opens);
            part("gives ", word, "year purse bare", opens);
            part("gives 5*", word, "year purse bare", opens);
            if (!word.equals("or") && !word.equals("and")) {
                faulty(5, "counts all @" + word, 1);
                faulty(5, "counts 1<2 @" + word, 1);
            }
            faulty(5, "gives 1 @" + word, 1);
            faulty(5, "scores match @" + word, 1);
        }
    }

    private static void part(String ahead, String word, String parts, String opens) {
        if (isOneOf(word, parts)) {
            String sum = ahead + word + (ahead.equals("counts ") ? "<1;" : ";");
            good(5, sum, 1);
        } else if (isOneOf(word, opens)) {
            faulty(5, ahead + word, 1, ahead.length() + word.length());
        } else {
            faulty(5, ahead + "@" + word + "<1;", 1);
        }
    }

    // ---- 2, 3: NAMES

    /** "a NAME that is there already, at its first byte", whatever sort it is of. */
    private static void namesThatAreThere() {
        for (String kind : new String[] {"blind", "colour", "thing"}) {
            for (String name : new String[] {"a", "c", "t", "u"}) {
                faulty(5, TWO + kind + " @" + name + " warm 1 loud 1 deep 1;", 2);
                faulty(5, TWO + kind + "\n\n  @" + name, 2);
            }
            for (String name : new String[] {"b", "aa", "ac", "at", "ca", "tt", "uuuuuu"}) {
                good(5, TWO + kind + " " + name + " warm 1 loud 1 deep 1" + (kind.equals("colour") ? " cost 1;" : ";"), 5);
            }
        }
        good(5, "thing abcdef warm 1 loud 1 deep 1;thing abcdeg warm 1 loud 1 deep 1;thing abcde warm 1 loud 1 deep 1;"
                + "thing bbcdef warm 1 loud 1 deep 1;", 4);
        faulty(5, "thing abcdef warm 1 loud 1 deep 1;blind @abcdef warm 1 loud 1 deep 1;", 2);
        faulty(5, "thing zzzzzz warm 1 loud 1 deep 1;thing zzzzzy warm 1 loud 1 deep 1;thing @zzzzzz", 2);
        // A NAME is there as soon as it is told, not ahead of its own STATEMENT.
        good(5, "thing a warm 1 loud 1 deep 1;thing b warm 1 loud 1 deep 1;near b a;", 3);
    }

    /** "a NAME that is none of what is asked, one told so already, at its first byte (of near the second one)". */
    private static void namesThatAreNot() {
        for (String name : new String[] {"c", "t", "u", "b", "aa"}) {
            faulty(5, TWO + "late @" + name + ";", 3);
        }
        for (String name : new String[] {"a", "c", "b", "tt"}) {
            faulty(5, TWO + "near @" + name + " t;", 3);
            faulty(5, TWO + "near @" + name + " " + name + ";", 3);
            faulty(5, TWO + "near t @" + name + ";", 3);
            faulty(5, TWO + "wears @" + name + " c;", 3);
        }
        for (String name : new String[] {"a", "t", "u", "b", "cc"}) {
            faulty(5, TWO + "wears t @" + name + ";", 3);
        }
        faulty(5, "late @a;" + TWO, 3);
        faulty(5, "near @t u;" + TWO, 3);
        faulty(5, "wears @t c;" + TWO, 3);
    }

    private static void toldSoAlready() {
        good(5, TWO + "late a;", 5);
        faulty(5, TWO + "late a;late @a;", 3);
        good(5, TWO + "near t u;", 5);
        good(5, TWO + "near u t;", 5);
        faulty(5, TWO + "near t u;near t @u;", 3);
        faulty(5, TWO + "near t u;near u @t;", 3);
        faulty(5, TWO + "near t @t;", 3);
        faulty(5, TWO + "near u @u;", 3);
        String third = TWO + "thing v warm 1 loud 1 deep 1;near t u;";
        good(5, third + "near t v;near u v;", 8);
        faulty(5, third + "near t v;near v @t;", 3);
        good(5, TWO + "wears t c;wears t c;wears u c;wears t c;", 8);
        good(5, blinds(6) + "late f;late e;late d;late c;late b;late a;", 12);
        faulty(5, blinds(6) + "late f;late e;late d;late c;late b;late a;late @f;", 3);
        good(5, things(6) + allNear(6), 21);
        faulty(5, things(6) + allNear(6) + "near m @r;", 3);
    }

    // ---- 4: NUMBERS

    /** "a NUMBER that can't be, at its first byte": the greatest that can be, and the next. */
    private static void numbers() {
        String ones = "warm 1 loud 1 deep 1";
        for (String kind : new String[] {"blind", "colour", "thing"}) {
            String end = kind.equals("colour") ? " cost 99;" : ";";
            good(5, kind + " x warm 0 loud 0 deep 0" + end.replace("99", "0"), 1);
            good(5, kind + " x warm 9 loud 9 deep 9" + end, 1);
            for (int k = 0; k < 3; k++) {
                String trait = "warm loud deep".split(" ")[k];
                for (String number : new String[] {"10", "11", "99", "9999", "0010"}) {
                    faulty(5, kind + " x " + ones.replace(trait + " 1", trait + " @" + number) + end, 4);
                }
                good(5, kind + " x " + ones.replace(trait + " 1", trait + " 0009") + end, 1);
            }
        }
        for (String number : new String[] {"0", "1", "99", "0099", "000"}) {
            good(5, "colour x warm 1 loud 1 deep 1 cost " + number + ";", 1);
        }
        for (String number : new String[] {"100", "0100", "101", "9999"}) {
            faulty(5, "colour x warm 1 loud 1 deep 1 cost @" + number + ";", 4);
            faulty(5, "colour x warm 1 loud 1 deep 1 cost @" + number, 4);
        }
        for (String number : new String[] {"0", "999", "0999", "0000"}) {
            good(5, "purse " + number + ";", 1);
        }
        for (String number : new String[] {"1000", "1001", "9999"}) {
            faulty(5, "purse @" + number + ";", 4);
        }
        for (String number : new String[] {"0", "100", "0100", "0000"}) {
            good(5, "row " + number + ";", 1);
        }
        for (String number : new String[] {"101", "0101", "999", "9999"}) {
            faulty(5, "row @" + number + ";", 4);
        }
        good(5, "gives 9999;scores 9999;counts 9999<0000;", 3);
    }

    private static void numbersAreKept() {
        BlindColours x = of("blind a warm 9 loud 0 deep 0009;colour c warm 0 loud 9 deep 8 cost 99;thing t warm 7 loud 0 deep 9;purse 999;");
        int[][] want = {{9, 0, 9}, {0, 9, 8}, {7, 0, 9}};
        for (int what = 0; what < 3; what++) {
            due(5, "of the blind", x.blind(0, what), want[0][what]);
            due(5, "of the colour", x.colour(0, what), want[1][what]);
            due(5, "of the thing", x.thing(0, what), want[2][what]);
        }
        due(5, "cost", x.colour(0, 3), 99);
        due(5, "purse", x.has(4), 999);
    }

    // ---- 5: what is open at once

    private static void seventhAndEighthOpen() {
        String[] opens = {"(", "min(", "max(1,", "if(all,", "if(1<", "if(all and 1<", "if(all or all,1,"};
        for (String open : opens) {
            faulty(5, "gives " + open.repeat(7), 1, 6 + 7 * open.length());
            int paren = open.indexOf('(');
            faulty(5, "gives " + open.repeat(8), 5, 6 + 7 * open.length() + paren);
            faulty(5, "gives " + open.repeat(9), 5, 6 + 7 * open.length() + paren);
            faulty(5, "scores 1+" + open.repeat(8), 5, 9 + 7 * open.length() + paren);
        }
        for (String open : new String[] {"[", "not ", "all and [", "[all or ", "[1<2 and "}) {
            faulty(5, "counts " + open.repeat(7), 1, 7 + 7 * open.length());
            int at = Math.max(open.indexOf("not"), open.indexOf('['));
            faulty(5, "counts " + open.repeat(8), 5, 7 + 7 * open.length() + at);
            faulty(5, "counts " + open.repeat(9), 5, 7 + 7 * open.length() + at);
        }
        good(5, "gives (((((((1)))))));", 1);
        good(5, "counts [[[[[[[all]]]]]]];", 1);
        good(5, "counts not not not not not not not all;", 1);
        good(5, "counts not [not [not [(1)<2]]];", 1);
        faulty(5, "counts not [not [not [(@(1))<2]]];", 5);
        faulty(5, "counts not [not [not [min(1,@(2))<2]]];", 5);
        faulty(5, "gives if(not [not [not [all and @not all]]],1,2);", 5);
    }

    /** What is closed is open no more; "not" not behind its FACT. */
    private static void closedIsNotOpen() {
        good(5, "gives (1)+(2)+(3)+(4)+(5)+(6)+(7)+(8)+(9);", 1);
        good(5, "gives min(1,2)+max(1,2)+if(all,1,2)+min(1,2)+max(1,2)+if(all,1,2)+min(1,2)+max(1,2);", 1);
        good(5, "counts [all] and [all] and [all] and [all] or [all] and [all] and [all] and [all] and [all];", 1);
        good(5, "counts not all and not all and not all and not all or not all and not all and not all and not all;", 1);
        good(5, "counts not 1<2 and not 1<(2) and not (1)<2 and [[[[[[[all]]]]]]];", 1);
        good(5, "counts not not not not not not not all and not not not not not not not all;", 1);
        good(5, "counts not not not not not not 1<(2) and not not not not not not (1)<2;", 1);
        faulty(5, "counts not not not not not not not 1<@(2);", 5);
        faulty(5, "counts not not not not not not not @(1)<2;", 5);
        good(5, "gives (((((((1))))))+((((((2)))))))+(((((((3)))))));", 1);
        faulty(5, "gives (((((((1))))))+((((((@(2", 5);
        good(5, "gives ((((((min(1,2)))))));", 1);
        faulty(5, "gives (((((((min@(1,2", 5);
        faulty(5, "gives (((((((max@(1,2", 5);
        faulty(5, "gives (((((((if@(all,1", 5);
        faulty(5, "gives (((((((1+@(1", 5);
        good(5, "gives if([[[[[[all]]]]]],((((((1)))))),((((((2)))))));", 1);
        faulty(5, "gives if([[[[[[all]]]]]],((((((1)))))),((((((@(2", 5);
    }

    /** What may not stand there at all is FAULT 1, were it the 8th. */
    private static void notOneThatMayStand() {
        faulty(5, "gives (((((((@[", 1);
        faulty(5, "gives (((((((@not", 1);
        faulty(5, "gives (((((((1@(", 1);
        faulty(5, "counts [[[[[[[all@[", 1);
        faulty(5, "gives (((((((min@", 1);
        faulty(5, "gives (((((((min @+", 1);
    }

    /** A FAULT with much open leaves nothing open for the next text. */
    private static void nextTextBeginsAnew() {
        BlindColours x = new BlindColours();
        for (String text : new String[] {"gives ((((((((1", "gives (((((((1;", "counts not not not not not not not not all;", "counts [[[[[[[1;"}) {
            due(5, text, tell(x, text), NONE);
            due(5, "seven open then", tell(x, "gives (((((((1)))))));counts [[[[[[[all]]]]]]];"), 2);
        }
        due(5, "sixty", tell(x, "row 1;".repeat(60)), 60);
        due(5, "and sixty", tell(x, "row 2;".repeat(60)), 60);
        due(5, "six", tell(x, blinds(6)), 6);
        due(5, "and six", tell(x, blinds(6)), 6);
        due(5, "one", tell(x, "gives 1;scores 2;counts all;"), 3);
        due(5, "and one", tell(x, "gives 1;scores 2;counts all;"), 3);
        due(5, "near", tell(x, TWO + "near t u;late a;"), 6);
        due(5, "and near", tell(x, TWO + "near t u;late a;"), 6);
    }

    // ---- 6: one too many

    private static void sixOfAKind() {
        String[] kinds = {"blind", "colour", "thing"};
        for (int kind = 0; kind < 3; kind++) {
            String end = kind == 1 ? " cost 1;" : ";";
            for (int many = 0; many <= 6; many++) {
                String text = kind == 0 ? blinds(many) : kind == 1 ? colours(many) : things(many);
                BlindColours x = of(text);
                due(5, many + " " + kinds[kind], x.has(kind), many);
                String next = kinds[kind] + " zz warm 1 loud 1 deep 1" + end;
                if (many < 6) {
                    good(5, text + next, many + 1);
                } else {
                    faulty(5, text + "@" + next, 6);
                    faulty(5, text + " \n@" + kinds[kind], 6);
                    faulty(5, text + "@" + kinds[kind] + " all", 6);
                    faulty(5, text + "@" + kinds[kind] + " m warm 99;", 6);
                    faulty(5, text + "@" + kinds[kind] + "!", 6);
                }
            }
        }
        good(5, blinds(6) + colours(6) + things(6), 18);
        for (String kind : kinds) {
            faulty(5, blinds(6) + colours(6) + things(6) + "@" + kind + " zz", 6);
        }
    }

    private static void oneOfASum() {
        String[] sums = {"scores 1;", "counts all;", "gives 1;"};
        for (int i = 0; i < 3; i++) {
            String word = sums[i].substring(0, sums[i].indexOf(' '));
            good(5, sums[i], 1);
            faulty(5, sums[i] + "@" + sums[i], 6);
            faulty(5, sums[i] + "row 1; @" + word, 6);
            faulty(5, sums[i] + "@" + word + ";", 6);
            faulty(5, sums[i] + sums[(i + 1) % 3] + "@" + word + "(", 6);
            good(5, sums[i] + sums[(i + 1) % 3] + sums[(i + 2) % 3], 3);
        }
        good(5, "purse 1;".repeat(20) + "row 1;".repeat(20) + TWO + "wears t c;".repeat(16), 60);
    }

    private static void sixtyAndOne() {
        String sixty = TWO + "gives 1;" + "row 1;".repeat(55);
        good(5, sixty, 60);
        good(5, sixty + "\n \n", 60);
        for (String s : new String[] {"blind b warm 1 loud 1 deep 1;", "colour d warm 1 loud 1 deep 1 cost 1;", "thing v warm 1 loud 1 deep 1;",
            "late a;", "near t u;", "wears t c;", "purse 1;", "row 1;", "scores 1;", "counts all;", "gives 1;", "late b;", "row 101;", "blind a"}) {
            faulty(5, sixty + "@" + s, 6);
            faulty(5, sixty + " \n @" + s, 6);
        }
        faulty(5, TWO + "gives 1;" + "row 1;".repeat(54) + "@x;", 1);
        faulty(5, TWO + "gives 1;" + "row 1;".repeat(54) + "@gives 1;", 6);
        faulty(5, TWO + "gives 1;" + "row 1;".repeat(54) + "late @b;", 3);
    }

    public static void main(String[] args) {
        whatItTells();
        ofTheLatestLand();
        theFirstAlongTheText();
        endsTooSoon();
        seventhLetterFifthDigit();
        wholeAtTheirFirstByte();
        signsInSums();
        eachByte();
        lettersAndDigits();
        blanks();
        ownWordsAreNoNames();
        eachOwnWordInEachPlace();
        namesThatAreThere();
        namesThatAreNot();
        toldSoAlready();
        numbers();
        numbersAreKept();
        seventhAndEighthOpen();
        closedIsNotOpen();
        notOneThatMayStand();
        nextTextBeginsAnew();
        sixOfAKind();
        oneOfASum();
        sixtyAndOne();
        finish();
    }
}
