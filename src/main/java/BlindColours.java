import java.util.Arrays;

/** The blind choose the colours: ../shared/DOC.md tells, promise by promise, what each call answers. */
public final class BlindColours {
    public static final int NONE = -1;
    public static final long NOTHING = -1000000000000000L;

    private static final int MOST_OF_A_KIND = 6;
    private static final int MOST_BYTES = 1600;
    private static final int MOST_AHEAD = 40;
    private static final int LAST_YEAR = 999;
    private static final int MOST_PURSE = 9999;
    private static final int MOST_MOOD = 9;
    private static final int DRAW_SPAN = 100;
    private static final int NO_COLOUR_BYTE = 255;

    private static final int REFUSED_TAPE = 0;
    private static final int REFUSED_LAND = 1;
    private static final int REFUSED_YEARS = 2;
    private static final int REFUSED_HAND = 3;
    private static final int REFUSED_UNDO = 4;
    private static final int REFUSED_REST = 5;

    private final Tape tape = new Tape();
    private final Sums sums = new Sums();
    private final State now = new State();
    private final State coming = new State();
    private final Past past = new Past();
    private final Picture picture = new Picture();
    private final int[] row = new int[MOST_OF_A_KIND];
    private final int[] refusals = new int[6];
    private final Reader reader;
    private final Council council;
    private final Calendar calendar;
    private final Guess guess;
    private Land here = new Land();
    private Land spare = new Land();
    private int faultKind = 0;
    private int faultPlace = NONE;
    private int dice = 1;

    public BlindColours() {
        reader = new Reader(tape, spare);
        council = new Council(sums, here, now);
        calendar = new Calendar(council, sums);
        guess = new Guess(council, calendar);
        now.begin(here);
    }

    public int feed(int a, int b, int c, int d, int e) {
        if (tape.length + 20 > MOST_BYTES) {
            return refuse(REFUSED_TAPE);
        }
        tape.addNumber(a);
        tape.addNumber(b);
        tape.addNumber(c);
        tape.addNumber(d);
        tape.addNumber(e);
        return tape.length;
    }

    public boolean end(int n) {
        if (n < 0 || n > tape.length) {
            return refuseIt(REFUSED_TAPE);
        }
        tape.length = n;
        return true;
    }

    public int land() {
        int statements = reader.read(spare);
        tape.length = 0;
        faultKind = reader.fault;
        faultPlace = reader.place;
        if (faultKind != 0) {
            return refuse(REFUSED_LAND);
        }
        Land told = spare;
        spare = here;
        here = told;
        now.begin(here);
        past.count = 0;
        guess.rows = 0;
        return statements;
    }

    public int fault(int what) {
        return what == 0 ? faultKind : what == 1 ? faultPlace : NONE;
    }

    public int has(int what) {
        switch (what) {
            case 0:
            case 1:
            case 2:
                return here.count[what];
            case 3:
                return now.year;
            case 4:
                return now.purse;
            case 5:
                return now.wornBy(here.count[Land.THING], NONE);
            case 6:
                return here.clashes(now.wears);
            case 7:
                return now.keptCount;
            case 8:
                return guess.rows;
            case 9:
                return past.count;
            case 10:
                return dice;
            default:
                return NONE;
        }
    }

    public int letter(int kind, int which, int k) {
        if (!here.isThere(kind, which) || k < 0 || k > 5) {
            return NONE;
        }
        return here.letterOf(kind, which, k);
    }

    public int blind(int blind, int what) {
        if (!here.isThere(Land.BLIND, blind)) {
            return NONE;
        }
        switch (what) {
            case 0:
            case 1:
            case 2:
                return here.traitOf(Land.BLIND, blind, what);
            case 3:
                return here.isLate(blind);
            case 4:
                return now.mood[blind];
            case 5:
                return now.placeOf(blind, here.count[Land.BLIND]);
            case 6:
                council.sit(here, now, 0);
                return council.isCounting(blind) ? 1 : 0;
            default:
                return NONE;
        }
    }

    public int colour(int colour, int what) {
        if (!here.isThere(Land.COLOUR, colour) || what < 0 || what > 4) {
            return NONE;
        }
        if (what == 4) {
            return now.wornBy(here.count[Land.THING], colour);
        }
        return here.traitOf(Land.COLOUR, colour, what);
    }

    public int thing(int thing, int what) {
        if (!here.isThere(Land.THING, thing) || what < 0 || what > 4) {
            return NONE;
        }
        if (what == 3) {
            return now.wears[thing];
        }
        if (what == 4) {
            return Integer.bitCount(here.near[thing]);
        }
        return here.traitOf(Land.THING, thing, what);
    }

    public long score(int blind, int thing, int colour) {
        if (!areThere(blind, thing) || !here.isThere(Land.COLOUR, colour)) {
            return NOTHING;
        }
        council.sit(here, now, thing);
        return council.scoreOf(blind, colour, 0);
    }

    public int word(int blind, int thing) {
        if (!areThere(blind, thing)) {
            return NONE;
        }
        council.sit(here, now, thing);
        return council.wordOf(blind);
    }

    public int choice(int thing, int what) {
        if (!here.isThere(Land.THING, thing) || what < 0 || what > 1) {
            return NONE;
        }
        council.sit(here, now, thing);
        int chosen = council.ask(now.order, here.everybody());
        return what == 0 ? chosen : council.votesFor(chosen);
    }

    // ---- ahead

    public int later(int thing, int n) {
        if (!here.isThere(Land.THING, thing) || !canPass(n)) {
            return NONE;
        }
        lookAhead(n);
        return coming.wears[thing];
    }

    public int mood(int blind, int n) {
        if (!here.isThere(Land.BLIND, blind) || !canPass(n)) {
            return NONE;
        }
        lookAhead(n);
        return coming.mood[blind];
    }

    public int purse(int n) {
        if (!canPass(n)) {
            return NONE;
        }
        lookAhead(n);
        return coming.purse;
    }

    // ---- orders, power, clashes

    public int order(int thing, int colour, int k) {
        if (!here.isThere(Land.THING, thing) || !here.isThere(Land.COLOUR, colour)
                || !here.isThere(Land.BLIND, k)) {
            return NONE;
        }
        council.sit(here, now, thing);
        return council.firstOrder(row, colour) ? row[k] : NONE;
    }

    public int orders(int thing, int colour) {
        if (!here.isThere(Land.THING, thing) || !here.isThere(Land.COLOUR, colour)) {
            return NONE;
        }
        council.sit(here, now, thing);
        return council.countOrders(row, colour);
    }

    public int power(int blind, int thing) {
        if (!areThere(blind, thing)) {
            return NONE;
        }
        council.sit(here, now, thing);
        return council.powerOf(blind);
    }

    public int clear() {
        return here.fewestToClear(now.wears, row);
    }

    public int odds(int colour) {
        if (colour != NONE && !here.isThere(Land.COLOUR, colour)) {
            return NONE;
        }
        int blinds = here.count[Land.BLIND];
        int things = here.count[Land.THING];
        if (blinds == 0 || things == 0 || now.year >= LAST_YEAR) {
            return NONE;
        }
        if (colour == NONE) {
            return DRAW_SPAN * blinds;
        }
        council.sit(here, now, now.year % things);
        return council.oddsOf(colour);
    }

    // ---- tastes

    public int meet() {
        boolean taken = guess.take(tape, here);
        tape.length = 0;
        return taken ? guess.rows : refuse(REFUSED_REST);
    }

    public int tastes(int blind) {
        if (!here.isThere(Land.BLIND, blind)) {
            return NONE;
        }
        return guess.left(here, now, blind);
    }

    public int tells(int blind, int what) {
        if (!here.isThere(Land.BLIND, blind) || what < 0 || what > 2
                || here.count[Land.THING] == 0 || now.year >= LAST_YEAR) {
            return NONE;
        }
        int left = guess.left(here, now, blind);
        if (left == 0) {
            return NONE;
        }
        guess.count(here, now, blind, left);
        guess.findTelling(here.count[Land.THING], LAST_YEAR - now.year);
        return what == 0 ? guess.bestYears : what == 1 ? guess.bestThing : guess.bestMost;
    }

    // ---- acts

    public int years(int n) {
        if (n < 1 || !canPass(n)) {
            return refuse(REFUSED_YEARS);
        }
        past.add(now);
        int painted = 0;
        for (int i = 0; i < n; i++) {
            painted += calendar.pass(here, now, NONE) ? 1 : 0;
        }
        return painted;
    }

    public int chance(int n) {
        if (n < 1 || !canPass(n)) {
            return refuse(REFUSED_YEARS);
        }
        past.add(now);
        int quarrels = 0;
        for (int i = 0; i < n; i++) {
            int silent = draw(DRAW_SPAN) < here.row ? draw(here.count[Land.BLIND]) : NONE;
            quarrels += silent == NONE ? 0 : 1;
            calendar.pass(here, now, silent);
        }
        return quarrels;
    }

    public boolean paint(int thing, int colour) {
        if (!here.isThere(Land.THING, thing)
                || (colour != NONE && !here.isThere(Land.COLOUR, colour))
                || now.wears[thing] == colour) {
            return refuseIt(REFUSED_HAND);
        }
        past.add(now);
        now.wears[thing] = colour;
        return true;
    }

    public boolean swap(int a, int b) {
        if (a == b || !here.isThere(Land.BLIND, a) || !here.isThere(Land.BLIND, b)) {
            return refuseIt(REFUSED_HAND);
        }
        past.add(now);
        int first = now.order[a];
        now.order[a] = now.order[b];
        now.order[b] = first;
        return true;
    }

    public boolean fill(int purse) {
        if (purse < 0 || purse > MOST_PURSE || purse == now.purse) {
            return refuseIt(REFUSED_HAND);
        }
        past.add(now);
        now.purse = purse;
        return true;
    }

    public boolean undo() {
        if (past.count == 0) {
            return refuseIt(REFUSED_UNDO);
        }
        past.takeBack(now);
        return true;
    }

    public boolean seed(int seed) {
        if (seed < 0) {
            return refuseIt(REFUSED_REST);
        }
        dice = seed;
        return true;
    }

    public int kept(int k, int what) {
        return now.keptOf(k, what);
    }

    // ---- images, refusals

    public int image() {
        picture.write(here, now);
        return picture.length;
    }

    public int octet(int k) {
        return picture.byteAt(k);
    }

    public boolean on() {
        boolean fits = Picture.fits(tape, here);
        if (fits) {
            Picture.show(tape, here, now);
            past.count = 0;
        }
        tape.length = 0;
        return fits || refuseIt(REFUSED_REST);
    }

    public int status(int what) {
        return what >= 0 && what < refusals.length ? refusals[what] : NONE;
    }

    private int refuse(int kind) {
        if (kind >= 0 && kind < refusals.length) {
            refusals[kind]++;
        }
        return NONE;
    }

    private boolean refuseIt(int kind) {
        refuse(kind);
        return false;
    }

    private boolean areThere(int blind, int thing) {
        return here.isThere(Land.BLIND, blind) && here.isThere(Land.THING, thing);
    }

    private boolean canPass(int n) {
        return n >= 0 && n <= MOST_AHEAD && now.year + n <= LAST_YEAR;
    }

    private void lookAhead(int n) {
        coming.take(now);
        for (int i = 0; i < n; i++) {
            calendar.pass(here, coming, NONE);
        }
    }

    /** A DRAW of m; none is drawn (NONE) of nothing. */
    private int draw(int m) {
        if (m <= 0) {
            return NONE;
        }
        dice = (int) ((1103515245L * dice + 12345L) & 0x7fffffffL);
        return (dice / 64) % m;
    }

    /** The bytes that were fed. */
    private static final class Tape {
        private final byte[] bytes = new byte[MOST_BYTES];
        int length = 0;

        void addNumber(int number) {
            if (length + 4 > bytes.length) {
                return;
            }
            for (int shift = 24; shift >= 0; shift -= 8) {
                bytes[length] = (byte) (number >> shift);
                length++;
            }
        }

        /** Byte i (0 .. 255), NONE behind the end. */
        int byteAt(int i) {
            return i >= 0 && i < length && i < bytes.length ? bytes[i] & 255 : NONE;
        }
    }

    /** What a text tells, all of it being fixed until the next one. */
    private static final class Land {
        static final int BLIND = 0;
        static final int COLOUR = 1;
        static final int THING = 2;
        static final int SCORES = 0;
        static final int COUNTS = 1;
        static final int GIVES = 2;

        private static final int MOST_LETTERS = 6;

        final int[] count = new int[3];
        final int[] name = new int[3 * MOST_OF_A_KIND];
        final int[] trait = new int[3 * MOST_OF_A_KIND * 4];
        final int[] near = new int[MOST_OF_A_KIND];
        final int[] firstWears = new int[MOST_OF_A_KIND];
        final int[] code = new int[MOST_BYTES];
        final int[] codeFrom = new int[3];
        final int[] codeTo = new int[3];
        int codeLength = 0;
        int late = 0;
        int firstPurse = 0;
        int row = 0;

        Land() {
            empty();
        }

        void empty() {
            Arrays.fill(count, 0);
            Arrays.fill(near, 0);
            Arrays.fill(firstWears, NONE);
            Arrays.fill(codeFrom, 0);
            Arrays.fill(codeTo, 0);
            codeLength = 0;
            late = 0;
            firstPurse = 0;
            row = 0;
        }

        boolean isThere(int kind, int which) {
            return kind >= 0 && kind < count.length && which >= 0 && which < count[kind];
        }

        /** Which one of a kind bears the name, NONE if none does. */
        int find(int kind, int packed) {
            if (kind < 0 || kind >= count.length) {
                return NONE;
            }
            for (int which = 0; which < count[kind]; which++) {
                if (name[kind * MOST_OF_A_KIND + which] == packed) {
                    return which;
                }
            }
            return NONE;
        }

        int letterOf(int kind, int which, int k) {
            int rest = isThere(kind, which) ? name[kind * MOST_OF_A_KIND + which] : 0;
            int length = 0;
            for (int left = rest; left > 0 && length < MOST_LETTERS; left /= 27) {
                length++;
            }
            if (k >= length) {
                return 0;
            }
            for (int i = length - 1; i > k; i--) {
                rest /= 27;
            }
            return rest % 27;
        }

        int traitOf(int kind, int which, int what) {
            int slot = (kind * MOST_OF_A_KIND + which) * 4 + what;
            return slot >= 0 && slot < trait.length ? trait[slot] : NONE;
        }

        int isLate(int blind) {
            return late >> blind & 1;
        }

        int everybody() {
            return (1 << count[BLIND]) - 1;
        }

        boolean hasCode(int formula) {
            return formula >= 0 && formula < codeTo.length && codeTo[formula] > codeFrom[formula];
        }

        /** The MATCH, the TASTE for warm being the one that is told here. */
        int matchOf(int blind, int warm, int thing, int colour) {
            int match = 0;
            for (int what = 0; what < 3; what++) {
                int taste = what == 0 ? warm : traitOf(BLIND, blind, what);
                int apart = traitOf(THING, thing, what) - traitOf(COLOUR, colour, what);
                match += taste * (9 - (apart < 0 ? -apart : apart));
            }
            return match;
        }

        /** How many CLASHES there are. */
        int clashes(int[] wears) {
            int found = 0;
            for (int thing = 0; thing < count[THING]; thing++) {
                found += clashesBelow(wears, thing);
            }
            return found;
        }

        /** How many CLASHES a THING is in with those told ahead of it. */
        private int clashesBelow(int[] wears, int thing) {
            int found = 0;
            for (int other = 0; other < thing && thing < wears.length; other++) {
                if ((near[thing] >> other & 1) == 1 && wears[thing] != NONE && wears[thing] == wears[other]) {
                    found++;
                }
            }
            return found;
        }

        /** To CLEAR: bits of THINGS, NONE if it can't be; the spare row is written over. */
        int fewestToClear(int[] wears, int[] spareRow) {
            int things = count[THING];
            int painted = 0;
            for (int thing = 0; thing < things; thing++) {
                painted |= wears[thing] == NONE ? 0 : 1 << thing;
            }
            for (int size = 0; size <= things; size++) {
                for (int set = 0; set <= painted; set++) {
                    if ((set & ~painted) == 0 && Integer.bitCount(set) == size) {
                        System.arraycopy(wears, 0, spareRow, 0, spareRow.length);
                        if (canClear(this, spareRow, set, 0)) {
                            return set;
                        }
                    }
                }
            }
            return NONE;
        }

        /** Whether the THINGS from one on can be without a CLASH, those of the set being painted anew. */
        private static boolean canClear(Land land, int[] wears, int set, int thing) {
            if (thing >= land.count[THING] || thing >= wears.length) {
                return true;
            }
            if ((set >> thing & 1) == 0) {
                return land.clashesBelow(wears, thing) == 0 && canClear(land, wears, set, thing + 1);
            }
            for (int colour = 0; colour < land.count[COLOUR]; colour++) {
                wears[thing] = colour;
                if (land.clashesBelow(wears, thing) == 0 && canClear(land, wears, set, thing + 1)) {
                    return true;
                }
            }
            return false;
        }
    }

    /** What changes from YEAR to YEAR and by hand. */
    private static final class State {
        private static final int MOST_KEPT = 40;

        int year = 0;
        int purse = 0;
        int keptCount = 0;
        final int[] order = new int[MOST_OF_A_KIND];
        final int[] mood = new int[MOST_OF_A_KIND];
        final int[] wears = new int[MOST_OF_A_KIND];
        private final int[] kept = new int[3 * MOST_KEPT];

        void begin(Land land) {
            year = 0;
            purse = land.firstPurse;
            keptCount = 0;
            for (int i = 0; i < MOST_OF_A_KIND; i++) {
                order[i] = i;
                mood[i] = 5;
                wears[i] = land.firstWears[i];
            }
        }

        void take(State other) {
            year = other.year;
            purse = other.purse;
            keptCount = other.keptCount;
            System.arraycopy(other.order, 0, order, 0, order.length);
            System.arraycopy(other.mood, 0, mood, 0, mood.length);
            System.arraycopy(other.wears, 0, wears, 0, wears.length);
            System.arraycopy(other.kept, 0, kept, 0, kept.length);
        }

        /** How many of the first THINGS wear the COLOUR (NONE: no COLOUR). */
        int wornBy(int things, int colour) {
            int worn = 0;
            for (int thing = 0; thing < things && thing < wears.length; thing++) {
                worn += wears[thing] == colour ? 1 : 0;
            }
            return worn;
        }

        int placeOf(int blind, int blinds) {
            for (int place = 0; place < blinds && place < order.length; place++) {
                if (order[place] == blind) {
                    return place;
                }
            }
            return NONE;
        }

        void keep(int thing, int colour) {
            if (keptCount >= MOST_KEPT) {
                System.arraycopy(kept, 3, kept, 0, kept.length - 3);
                keptCount = MOST_KEPT - 1;
            }
            kept[3 * keptCount] = year;
            kept[3 * keptCount + 1] = thing;
            kept[3 * keptCount + 2] = colour;
            keptCount++;
        }

        int keptOf(int k, int what) {
            if (k < 0 || k >= keptCount || what < 0 || what > 2) {
                return NONE;
            }
            return kept[3 * k + what];
        }
    }

    /** The text cut into words, numbers and signs, up to the first byte that can be in none of them. */
    private static final class Tokens {
        static final int END = 0;
        static final int OWN_WORD = 1;
        static final int NAME = 2;
        static final int NUMBER = 3;
        static final int SIGN = 4;
        static final int BAD = 5;

        private static final String SIGNS = ";+-*/%(),[]<>=";

        private final int[] sort = new int[MOST_BYTES + 1];
        private final int[] value = new int[MOST_BYTES + 1];
        // Where it begins; of what is BAD where it can't go on.
        private final int[] place = new int[MOST_BYTES + 1];
        private int count = 0;
        private int behind = 0;
        private int at = 0;

        void cut(Tape tape) {
            at = 0;
            count = 0;
            behind = 0;
            int latest = SIGN;
            for (int i = 0; i < sort.length && latest != BAD && latest != END; i++) {
                int from = behind;
                while (behind < tape.length && isBlank(tape.byteAt(behind))) {
                    behind++;
                }
                boolean joined = behind == from && latest != SIGN;
                latest = cutOne(tape, joined);
            }
        }

        // What stands here: behind the last one stands BAD, so that nothing can be read any more.

        int sortHere() {
            return at >= 0 && at < count && at < sort.length ? sort[at] : BAD;
        }

        int valueHere() {
            return at >= 0 && at < count && at < value.length ? value[at] : 0;
        }

        int placeHere() {
            return at >= 0 && at < count && at < place.length ? place[at] : 0;
        }

        /** Where it begins, of what is BAD too. */
        int beginHere() {
            if (at < 0 || at >= count || at >= sort.length) {
                return 0;
            }
            return sort[at] == BAD ? value[at] : place[at];
        }

        boolean isHere(int what, int worth) {
            return at >= 0 && at < count && at < sort.length && sort[at] == what && value[at] == worth;
        }

        void step() {
            at = at < count ? at + 1 : count;
        }

        void stop() {
            at = count;
        }

        private int cutOne(Tape tape, boolean joined) {
            int first = tape.byteAt(behind);
            if (first == NONE) {
                return add(END, 0, behind);
            }
            if (isLetter(first) && !joined) {
                return cutWord(tape);
            }
            if (isDigit(first) && !joined) {
                return cutNumber(tape);
            }
            if (SIGNS.indexOf((char) first) < 0) {
                return add(BAD, behind, behind);
            }
            behind++;
            return add(SIGN, first, behind - 1);
        }

        private int cutWord(Tape tape) {
            int from = behind;
            int packed = 0;
            while (behind < from + 6 && isLetter(tape.byteAt(behind))) {
                packed = packed * 27 + (tape.byteAt(behind) - 'a' + 1);
                behind++;
            }
            if (isLetter(tape.byteAt(behind))) {
                return add(BAD, from, behind);
            }
            int own = Reader.ownNumber(packed);
            return own == NONE ? add(NAME, packed, from) : add(OWN_WORD, own, from);
        }

        private int cutNumber(Tape tape) {
            int from = behind;
            int number = 0;
            while (behind < from + 4 && isDigit(tape.byteAt(behind))) {
                number = number * 10 + (tape.byteAt(behind) - '0');
                behind++;
            }
            return isDigit(tape.byteAt(behind)) ? add(BAD, from, behind) : add(NUMBER, number, from);
        }

        private int add(int what, int worth, int where) {
            if (count < sort.length) {
                sort[count] = what;
                value[count] = worth;
                place[count] = where;
                count++;
            }
            return what;
        }

        private static boolean isBlank(int c) {
            return c == 32 || c == 10;
        }

        private static boolean isLetter(int c) {
            return c >= 'a' && c <= 'z';
        }

        private static boolean isDigit(int c) {
            return c >= '0' && c <= '9';
        }
    }

    /** Reads a text into a LAND, up to its first FAULT. */
    private static final class Reader {
        // The first three are also the numbers of the kinds, the first eleven begin a STATEMENT.
        private static final String OWN_WORDS = "blind colour thing late near wears purse row scores counts gives warm loud deep cost year mood match worn heard bare if or and not all min max ";
        private static final int LATE = 3;
        private static final int NEAR = 4;
        private static final int WEARS = 5;
        private static final int PURSE = 6;
        private static final int ROW = 7;
        private static final int SCORES = 8;
        private static final int GIVES = 10;
        private static final int WARM = 11;
        private static final int COST = 14;
        private static final int YEAR = 15;
        private static final int MOOD = 16;
        private static final int MATCH = 17;
        private static final int WORN = 18;
        private static final int HEARD = 19;
        private static final int BARE = 20;
        private static final int IF = 21;
        private static final int OR = 22;
        private static final int AND = 23;
        private static final int NOT = 24;
        private static final int ALL = 25;
        private static final int MIN = 26;
        private static final int MAX = 27;

        private static final int UNEXPECTED = 1;
        private static final int NAME_TAKEN = 2;
        private static final int WRONG_NAME = 3;
        private static final int WRONG_NUMBER = 4;
        private static final int TOO_DEEP = 5;
        private static final int TOO_MANY = 6;

        private static final int MOST_STATEMENTS = 60;
        private static final int MOST_OPEN = 7;

        private final Tape tape;
        private final Tokens tokens = new Tokens();
        private Land land;
        private int open = 0;
        private int formula = 0;
        private int statements = 0;
        int fault = 0;
        int place = NONE;

        Reader(Tape tape, Land land) {
            this.tape = tape;
            this.land = land;
        }

        /** How many STATEMENTS were read; what they tell stands whole in the LAND, if there is no fault. */
        int read(Land into) {
            land = into;
            land.empty();
            open = 0;
            statements = 0;
            fault = 0;
            place = NONE;
            tokens.cut(tape);
            for (int i = 0; i <= MOST_STATEMENTS && fault == 0 && tokens.sortHere() != Tokens.END; i++) {
                readStatement();
            }
            return statements;
        }

        private void fail(int kind) {
            if (fault == 0) {
                fault = kind;
                place = kind == TOO_MANY ? tokens.beginHere() : tokens.placeHere();
            }
            tokens.stop();
        }

        /** Which OWN WORD it is, NONE if it is a NAME. */
        static int ownNumber(int packed) {
            int word = 0;
            int number = 0;
            for (int i = 0; i < OWN_WORDS.length(); i++) {
                char c = OWN_WORDS.charAt(i);
                if (c != ' ') {
                    word = word * 27 + (c - 'a' + 1);
                } else if (word == packed) {
                    return number;
                } else {
                    word = 0;
                    number++;
                }
            }
            return NONE;
        }

        private int ownHere() {
            return tokens.sortHere() == Tokens.OWN_WORD ? tokens.valueHere() : NONE;
        }

        private boolean isSign(char sign) {
            return tokens.isHere(Tokens.SIGN, sign);
        }

        private boolean isOwn(int word) {
            return tokens.isHere(Tokens.OWN_WORD, word);
        }

        private void expect(char sign) {
            if (isSign(sign)) {
                tokens.step();
            } else {
                fail(UNEXPECTED);
            }
        }

        // ---- statements

        private void readStatement() {
            int kind = ownHere();
            // The 61st is one too many whatever it is, so it is not looked at.
            if (statements == MOST_STATEMENTS) {
                fail(TOO_MANY);
                return;
            }
            if (kind < 0 || kind > GIVES) {
                fail(UNEXPECTED);
                return;
            }
            if (isFull(kind)) {
                fail(TOO_MANY);
                return;
            }
            statements++;
            tokens.step();
            switch (kind) {
                case Land.BLIND:
                case Land.COLOUR:
                case Land.THING:
                    readOne(kind);
                    break;
                case LATE:
                    readLate();
                    break;
                case NEAR:
                    readNear();
                    break;
                case WEARS:
                    readWears();
                    break;
                case PURSE:
                    land.firstPurse = takeUpTo(999);
                    break;
                case ROW:
                    land.row = takeUpTo(DRAW_SPAN);
                    break;
                default:
                    readFormula(kind - SCORES);
                    break;
            }
            expect(';');
        }

        private boolean isFull(int kind) {
            if (kind <= Land.THING) {
                return land.count[kind] >= MOST_OF_A_KIND;
            }
            return kind >= SCORES && land.hasCode(kind - SCORES);
        }

        private void readOne(int kind) {
            if (!isName()) {
                return;
            }
            if (isTaken(tokens.valueHere())) {
                fail(NAME_TAKEN);
                return;
            }
            int slot = kind * MOST_OF_A_KIND + land.count[kind];
            land.name[slot] = tokens.valueHere();
            tokens.step();
            for (int what = 0; what < 3; what++) {
                land.trait[slot * 4 + what] = takeTrait(WARM + what, 9);
            }
            if (kind == Land.COLOUR) {
                land.trait[slot * 4 + 3] = takeTrait(COST, 99);
            }
            land.count[kind]++;
        }

        private int takeTrait(int word, int most) {
            if (!isOwn(word)) {
                fail(UNEXPECTED);
                return 0;
            }
            tokens.step();
            return takeUpTo(most);
        }

        private int takeUpTo(int most) {
            int number = tokens.valueHere();
            if (tokens.sortHere() != Tokens.NUMBER) {
                fail(UNEXPECTED);
                return 0;
            }
            if (number > most) {
                fail(WRONG_NUMBER);
                return 0;
            }
            tokens.step();
            return number;
        }

        private void readLate() {
            int blind = findNamed(Land.BLIND);
            if (blind == NONE) {
                return;
            }
            if (land.isLate(blind) == 1) {
                fail(WRONG_NAME);
                return;
            }
            land.late |= 1 << blind;
            tokens.step();
        }

        private void readNear() {
            int first = findNamed(Land.THING);
            if (first == NONE) {
                return;
            }
            tokens.step();
            int second = findNamed(Land.THING);
            if (second == NONE) {
                return;
            }
            if (first == second || (land.near[first] >> second & 1) == 1) {
                fail(WRONG_NAME);
                return;
            }
            land.near[first] |= 1 << second;
            land.near[second] |= 1 << first;
            tokens.step();
        }

        private void readWears() {
            int thing = findNamed(Land.THING);
            if (thing == NONE) {
                return;
            }
            tokens.step();
            int colour = findNamed(Land.COLOUR);
            if (colour == NONE) {
                return;
            }
            land.firstWears[thing] = colour;
            tokens.step();
        }

        private boolean isName() {
            if (tokens.sortHere() == Tokens.NAME) {
                return true;
            }
            fail(UNEXPECTED);
            return false;
        }

        private boolean isTaken(int packed) {
            return land.find(Land.BLIND, packed) != NONE || land.find(Land.COLOUR, packed) != NONE
                    || land.find(Land.THING, packed) != NONE;
        }

        /** Which one of the kind is named here, NONE with a fault; the name is not yet left behind. */
        private int findNamed(int kind) {
            if (!isName()) {
                return NONE;
            }
            int which = land.find(kind, tokens.valueHere());
            if (which == NONE) {
                fail(WRONG_NAME);
            }
            return which;
        }

        // ---- sums and tests

        private void readFormula(int which) {
            formula = which;
            land.codeFrom[which] = land.codeLength;
            if (which == Land.COUNTS) {
                readTest();
            } else {
                readSum();
            }
            land.codeTo[which] = land.codeLength;
        }

        private void emit(int step) {
            if (land.codeLength < land.code.length) {
                land.code[land.codeLength] = step;
                land.codeLength++;
            }
        }

        private boolean opens() {
            if (open >= MOST_OPEN) {
                fail(TOO_DEEP);
                return false;
            }
            open++;
            tokens.step();
            return true;
        }

        private void readTest() {
            readBoth();
            for (int i = 0; i < MOST_BYTES && isOwn(OR); i++) {
                tokens.step();
                readBoth();
                emit(Sums.OR);
            }
        }

        private void readBoth() {
            readFact();
            for (int i = 0; i < MOST_BYTES && isOwn(AND); i++) {
                tokens.step();
                readFact();
                emit(Sums.AND);
            }
        }

        private void readFact() {
            if (isOwn(NOT)) {
                if (opens()) {
                    readFact();
                    open--;
                    emit(Sums.NOT);
                }
            } else if (isSign('[')) {
                if (opens()) {
                    readTest();
                    open--;
                    expect(']');
                }
            } else if (isOwn(ALL)) {
                emit(1);
                tokens.step();
            } else {
                readComparison();
            }
        }

        private void readComparison() {
            readSum();
            int step = isSign('<') ? Sums.BELOW : isSign('>') ? Sums.ABOVE : Sums.LIKE;
            if (step == Sums.LIKE && !isSign('=')) {
                fail(UNEXPECTED);
                return;
            }
            tokens.step();
            readSum();
            emit(step);
        }

        private void readSum() {
            readProduct();
            for (int i = 0; i < MOST_BYTES && (isSign('+') || isSign('-')); i++) {
                int step = isSign('+') ? Sums.ADD : Sums.LESS;
                tokens.step();
                readProduct();
                emit(step);
            }
        }

        private void readProduct() {
            readPart();
            for (int i = 0; i < MOST_BYTES && (isSign('*') || isSign('/') || isSign('%')); i++) {
                int step = isSign('*') ? Sums.TIMES : isSign('/') ? Sums.OVER : Sums.REST;
                tokens.step();
                readPart();
                emit(step);
            }
        }

        private void readPart() {
            int asked = variable(ownHere());
            if (tokens.sortHere() == Tokens.NUMBER) {
                emit(tokens.valueHere());
                tokens.step();
            } else if (asked != 0) {
                emit(asked);
                tokens.step();
            } else if (isSign('(')) {
                if (opens()) {
                    readSum();
                    open--;
                    expect(')');
                }
            } else if (isOwn(MIN) || isOwn(MAX) || isOwn(IF)) {
                readChosen(ownHere());
            } else {
                fail(UNEXPECTED);
            }
        }

        /** min, max, if: all of their sums are worked out, then one is taken. */
        private void readChosen(int word) {
            tokens.step();
            if (!isSign('(')) {
                fail(UNEXPECTED);
                return;
            }
            if (!opens()) {
                return;
            }
            if (word == IF) {
                readTest();
                expect(',');
            }
            readSum();
            expect(',');
            readSum();
            open--;
            expect(')');
            emit(word == MIN ? Sums.MIN : word == MAX ? Sums.MAX : Sums.IF);
        }

        /** What an OWN WORD asks for in the formula at hand, 0 if it can't stand in it. */
        private int variable(int word) {
            if (word == YEAR) {
                return Sums.YEAR;
            }
            if (formula == Land.GIVES) {
                return word == PURSE ? Sums.PURSE : word == BARE ? Sums.BARE : 0;
            }
            if (word == MOOD) {
                return Sums.MOOD;
            }
            if (word == LATE) {
                return Sums.LATE;
            }
            if (formula == Land.COUNTS) {
                return 0;
            }
            switch (word) {
                case MATCH:
                    return Sums.MATCH;
                case WORN:
                    return Sums.WORN;
                case HEARD:
                    return Sums.HEARD;
                case COST:
                    return Sums.COST;
                default:
                    return 0;
            }
        }
    }

    /** Works out sums and tests, which stand step by step with what they need ahead of them. */
    private static final class Sums {
        // A step from 0 on is a number itself.
        static final int YEAR = -1;
        static final int MOOD = -2;
        static final int LATE = -3;
        static final int MATCH = -4;
        static final int WORN = -5;
        static final int HEARD = -6;
        static final int COST = -7;
        static final int PURSE = -8;
        static final int BARE = -9;
        static final int ADD = -10;
        static final int LESS = -11;
        static final int TIMES = -12;
        static final int OVER = -13;
        static final int REST = -14;
        static final int MIN = -15;
        static final int MAX = -16;
        static final int BELOW = -17;
        static final int ABOVE = -18;
        static final int LIKE = -19;
        static final int AND = -20;
        static final int OR = -21;
        static final int NOT = -22;
        static final int IF = -23;

        private static final int MOST = 1000000;

        private final int[] variables = new int[9];
        private final long[] stack = new long[96];

        void put(int variable, int value) {
            int index = -1 - variable;
            if (index >= 0 && index < variables.length) {
                variables[index] = value;
            }
        }

        int workOut(Land land, int formula) {
            if (!land.hasCode(formula)) {
                return 0;
            }
            int top = 0;
            int end = land.codeTo[formula] < land.code.length ? land.codeTo[formula] : land.code.length;
            for (int i = land.codeFrom[formula]; i < end; i++) {
                int step = land.code[i];
                if (step >= BARE) {
                    if (top >= stack.length) {
                        return 0;
                    }
                    stack[top] = step >= 0 ? step : variables[-1 - step];
                    top++;
                } else if (step == NOT && top >= 1) {
                    stack[top - 1] = 1 - stack[top - 1];
                } else if (step == IF && top >= 3) {
                    top -= 2;
                    stack[top - 1] = stack[top - 1] != 0 ? stack[top] : stack[top + 1];
                } else if (step > NOT && top >= 2) {
                    top--;
                    stack[top - 1] = within(join(step, stack[top - 1], stack[top]));
                }
            }
            return top >= 1 ? (int) stack[0] : 0;
        }

        private static long join(int step, long a, long b) {
            switch (step) {
                case ADD:
                    return a + b;
                case LESS:
                    return a - b;
                case TIMES:
                    return a * b;
                case OVER:
                    return b == 0 ? 0 : (a - (a % b + b) % b) / b;
                case REST:
                    return b == 0 ? 0 : (a % b + b) % b;
                case MIN:
                    return a < b ? a : b;
                case MAX:
                    return a > b ? a : b;
                case BELOW:
                    return a < b ? 1 : 0;
                case ABOVE:
                    return a > b ? 1 : 0;
                case LIKE:
                    return a == b ? 1 : 0;
                case AND:
                    return a & b;
                case OR:
                    return a | b;
                default:
                    return 0;
            }
        }

        private static long within(long result) {
            return result > MOST ? MOST : result < -MOST ? -MOST : result;
        }
    }

    /** Asks the BLIND for one THING: sit down for it first, then ask as often as need be. */
    private static final class Council {
        // No SCORE is as low as that.
        private static final int UNKNOWN = -2000000;

        private final Sums sums;
        // The SCORES that were worked out since sitting down, by who, COLOUR, how many were heard for it.
        private final int[] known = new int[MOST_OF_A_KIND * MOST_OF_A_KIND * MOST_OF_A_KIND];
        private final int[] votes = new int[MOST_OF_A_KIND];
        private final int[] said = new int[MOST_OF_A_KIND];
        private Land land;
        private State state;
        private int thing = 0;
        private int counting = 0;
        private int supposedBlind = NONE;
        private int supposedWarm = 0;

        Council(Sums sums, Land land, State state) {
            this.sums = sums;
            this.land = land;
            this.state = state;
        }

        /** From now on the TASTE for warm of one of the BLIND is taken for another one (NONE: of nobody). */
        void suppose(int blind, int warm) {
            supposedBlind = blind;
            supposedWarm = warm;
        }

        void sit(Land ofLand, State ofState, int forThing) {
            land = ofLand;
            state = ofState;
            thing = forThing;
            Arrays.fill(known, UNKNOWN);
            Arrays.fill(votes, 0);
            counting = 0;
            for (int blind = 0; blind < land.count[Land.BLIND]; blind++) {
                putPerson(blind);
                if (!land.hasCode(Land.COUNTS) || sums.workOut(land, Land.COUNTS) != 0) {
                    counting |= 1 << blind;
                }
            }
        }

        private void putPerson(int blind) {
            sums.put(Sums.YEAR, state.year);
            sums.put(Sums.MOOD, state.mood[blind]);
            sums.put(Sums.LATE, land.isLate(blind));
        }

        boolean isCounting(int blind) {
            return (counting >> blind & 1) == 1;
        }

        int scoreOf(int blind, int colour, int heard) {
            int warm = blind == supposedBlind ? supposedWarm : land.traitOf(Land.BLIND, blind, 0);
            int slot = (blind * MOST_OF_A_KIND + colour) * MOST_OF_A_KIND + heard;
            if (heard < 0 || heard >= MOST_OF_A_KIND || slot < 0 || slot >= known.length) {
                return 0;
            }
            if (known[slot] == UNKNOWN) {
                known[slot] = land.matchOf(blind, warm, thing, colour);
                if (land.hasCode(Land.SCORES)) {
                    putPerson(blind);
                    sums.put(Sums.MATCH, known[slot]);
                    sums.put(Sums.WORN, state.wornBy(land.count[Land.THING], colour));
                    sums.put(Sums.HEARD, heard);
                    sums.put(Sums.COST, land.traitOf(Land.COLOUR, colour, 3));
                    known[slot] = sums.workOut(land, Land.SCORES);
                }
            }
            return known[slot];
        }

        /** The WORD of one of the BLIND by what was heard up to now; NONE without COLOURS. */
        int wordOf(int blind) {
            int best = NONE;
            int most = 0;
            for (int colour = 0; colour < land.count[Land.COLOUR]; colour++) {
                int score = scoreOf(blind, colour, votes[colour]);
                if (best == NONE || score > most) {
                    best = colour;
                    most = score;
                }
            }
            return best;
        }

        /** The CHOICE when those of the set (bits) are asked, one after the other as the row tells. */
        int ask(int[] order, int set) {
            Arrays.fill(votes, 0);
            Arrays.fill(said, NONE);
            for (int place = 0; place < land.count[Land.BLIND] && place < order.length; place++) {
                int blind = order[place];
                if (blind < 0 || blind >= said.length || (set >> blind & 1) == 0) {
                    continue;
                }
                int word = wordOf(blind);
                said[blind] = word;
                if (word != NONE && isCounting(blind)) {
                    votes[word]++;
                }
            }
            int chosen = NONE;
            for (int colour = 0; colour < land.count[Land.COLOUR]; colour++) {
                if (votes[colour] > (chosen == NONE ? 0 : votes[chosen])) {
                    chosen = colour;
                }
            }
            return chosen;
        }

        /** How many WORDS counted for a COLOUR when it was last asked; NONE for none. */
        int votesFor(int colour) {
            return colour >= 0 && colour < votes.length ? votes[colour] : NONE;
        }

        int saidBy(int blind) {
            return blind >= 0 && blind < said.length ? said[blind] : NONE;
        }

        /** To ORDER a COLOUR: it stands in the row then, if there is such an ORDER. */
        boolean firstOrder(int[] order, int colour) {
            int all = beginOrders(order);
            for (int i = 0; i < all; i++) {
                if (ask(order, land.everybody()) == colour) {
                    return true;
                }
                nextOrder(order);
            }
            return false;
        }

        int countOrders(int[] order, int colour) {
            int all = beginOrders(order);
            int found = 0;
            for (int i = 0; i < all; i++) {
                found += ask(order, land.everybody()) == colour ? 1 : 0;
                nextOrder(order);
            }
            return found;
        }

        /** Puts the least of all ORDERS into the row; how many ORDERS there are. */
        private int beginOrders(int[] order) {
            int all = 1;
            for (int i = 0; i < order.length; i++) {
                order[i] = i;
                all *= i < land.count[Land.BLIND] ? i + 1 : 1;
            }
            return all;
        }

        /** Puts the next greater ORDER into the row (behind the greatest it stays). */
        private void nextOrder(int[] order) {
            int blinds = land.count[Land.BLIND];
            int low = blinds - 2;
            while (low >= 0 && order[low] > order[low + 1]) {
                low--;
            }
            if (low < 0) {
                return;
            }
            int high = blinds - 1;
            while (high > low && order[high] < order[low]) {
                high--;
            }
            exchange(order, low, high);
            for (int left = low + 1, right = blinds - 1; left < right; left++, right--) {
                exchange(order, left, right);
            }
        }

        private static void exchange(int[] order, int a, int b) {
            int first = order[a];
            order[a] = order[b];
            order[b] = first;
        }

        int powerOf(int blind) {
            int power = 0;
            for (int set = 0; set <= land.everybody(); set++) {
                if ((set >> blind & 1) == 0) {
                    power += ask(state.order, set) != ask(state.order, set | 1 << blind) ? 1 : 0;
                }
            }
            return power;
        }

        /** By how many rows of a number below 100, one of the BLIND the CHOICE is the COLOUR. */
        int oddsOf(int colour) {
            int blinds = land.count[Land.BLIND];
            int all = land.everybody();
            int rows = ask(state.order, all) == colour ? (DRAW_SPAN - land.row) * blinds : 0;
            for (int silent = 0; silent < blinds; silent++) {
                rows += ask(state.order, all & ~(1 << silent)) == colour ? land.row : 0;
            }
            return rows;
        }
    }

    /** Lets the YEARS go by. */
    private static final class Calendar {
        private static final int GIFT = 9;
        private static final int MOST_GIVEN = 99;

        private final Council council;
        private final Sums sums;

        Calendar(Council council, Sums sums) {
            this.council = council;
            this.sums = sums;
        }

        /** One YEAR, in which one of the BLIND (NONE: nobody) says nothing: whether a THING was PAINTED. */
        boolean pass(Land land, State state, int silent) {
            int given = gift(land, state);
            state.purse = state.purse + given > MOST_PURSE ? MOST_PURSE : state.purse + given;
            int things = land.count[Land.THING];
            boolean painted = false;
            if (things > 0) {
                int thing = state.year % things;
                int asked = silent == NONE ? land.everybody() : land.everybody() & ~(1 << silent);
                council.sit(land, state, thing);
                int chosen = council.ask(state.order, asked);
                if (chosen != NONE) {
                    painted = paintIfPaid(land, state, thing, chosen);
                    changeMoods(land, state, chosen);
                }
            }
            state.year = state.year < LAST_YEAR ? state.year + 1 : LAST_YEAR;
            return painted;
        }

        private int gift(Land land, State state) {
            if (!land.hasCode(Land.GIVES)) {
                return GIFT;
            }
            sums.put(Sums.YEAR, state.year);
            sums.put(Sums.PURSE, state.purse);
            sums.put(Sums.BARE, state.wornBy(land.count[Land.THING], NONE));
            int given = sums.workOut(land, Land.GIVES);
            return given < 0 ? 0 : given > MOST_GIVEN ? MOST_GIVEN : given;
        }

        private static boolean paintIfPaid(Land land, State state, int thing, int colour) {
            int cost = land.traitOf(Land.COLOUR, colour, 3);
            if (cost > state.purse || state.wears[thing] == colour) {
                return false;
            }
            state.wears[thing] = colour;
            state.purse -= cost;
            state.keep(thing, colour);
            return true;
        }

        private void changeMoods(Land land, State state, int chosen) {
            for (int blind = 0; blind < land.count[Land.BLIND]; blind++) {
                int mood = state.mood[blind] + (council.saidBy(blind) == chosen ? 1 : -1);
                state.mood[blind] = mood < 0 ? 0 : mood > MOST_MOOD ? MOST_MOOD : mood;
            }
        }
    }

    /** How all was ahead of each of the last ACTS. */
    private static final class Past {
        private static final int MOST = 20;

        private final State[] before = new State[MOST];
        private int next = 0;
        int count = 0;

        Past() {
            for (int i = 0; i < MOST; i++) {
                before[i] = new State();
            }
        }

        void add(State state) {
            before[next].take(state);
            next = (next + 1) % MOST;
            count = count < MOST ? count + 1 : MOST;
        }

        void takeBack(State state) {
            if (count > 0) {
                next = (next + MOST - 1) % MOST;
                state.take(before[next]);
                count--;
            }
        }
    }

    /** AN IMAGE: written, and looked at on the tape. */
    private static final class Picture {
        private static final int FIRST_CHECK = 229;

        private final int[] bytes = new int[5 + 3 * MOST_OF_A_KIND];
        int length = 0;

        void write(Land land, State state) {
            length = 0;
            add(state.year / 256);
            add(state.year % 256);
            add(state.purse / 256);
            add(state.purse % 256);
            int blinds = land.count[Land.BLIND];
            for (int place = 0; place < blinds; place++) {
                add(state.order[place]);
            }
            for (int blind = 0; blind < blinds; blind++) {
                add(state.mood[blind]);
            }
            for (int thing = 0; thing < land.count[Land.THING]; thing++) {
                add(state.wears[thing] == NONE ? NO_COLOUR_BYTE : state.wears[thing]);
            }
            int check = FIRST_CHECK;
            for (int i = 0; i < length; i++) {
                check = (5 * check + bytes[i]) % 251;
            }
            add(check);
        }

        private void add(int octet) {
            if (length < bytes.length) {
                bytes[length] = octet;
                length++;
            }
        }

        int byteAt(int k) {
            return k >= 0 && k < length && k < bytes.length ? bytes[k] : NONE;
        }

        /** Whether the tape is AN IMAGE of the LAND. */
        static boolean fits(Tape tape, Land land) {
            int blinds = land.count[Land.BLIND];
            int things = land.count[Land.THING];
            if (tape.length != 5 + 2 * blinds + things || !isChecked(tape)
                    || pairAt(tape, 0) > LAST_YEAR || pairAt(tape, 2) > MOST_PURSE) {
                return false;
            }
            int seen = 0;
            for (int i = 0; i < blinds; i++) {
                int blind = tape.byteAt(4 + i);
                if (!land.isThere(Land.BLIND, blind) || tape.byteAt(4 + blinds + i) > MOST_MOOD) {
                    return false;
                }
                seen |= 1 << blind;
            }
            for (int thing = 0; thing < things; thing++) {
                int colour = tape.byteAt(4 + 2 * blinds + thing);
                if (colour != NO_COLOUR_BYTE && !land.isThere(Land.COLOUR, colour)) {
                    return false;
                }
            }
            return seen == land.everybody();
        }

        private static boolean isChecked(Tape tape) {
            int check = FIRST_CHECK;
            for (int i = 0; i < tape.length - 1; i++) {
                check = (5 * check + tape.byteAt(i)) % 251;
            }
            return check == tape.byteAt(tape.length - 1);
        }

        private static int pairAt(Tape tape, int i) {
            return tape.byteAt(i) * 256 + tape.byteAt(i + 1);
        }

        /** Makes all as the tape, which fits, tells. */
        static void show(Tape tape, Land land, State state) {
            int blinds = land.count[Land.BLIND];
            state.year = pairAt(tape, 0);
            state.purse = pairAt(tape, 2);
            state.keptCount = 0;
            for (int i = 0; i < blinds; i++) {
                state.order[i] = tape.byteAt(4 + i);
                state.mood[i] = tape.byteAt(4 + blinds + i);
            }
            for (int thing = 0; thing < land.count[Land.THING]; thing++) {
                int colour = tape.byteAt(4 + 2 * blinds + thing);
                state.wears[thing] = colour == NO_COLOUR_BYTE ? NONE : colour;
            }
        }
    }

    /** What the BLIND can have for a TASTE, by what was MET, and what would tell the most of it. */
    private static final class Guess {
        private static final int MOST_ROWS = 16;
        private static final int MOST_YEARS = 30;
        private static final int TASTES = 10;
        private static final int LOOKS = MOST_OF_A_KIND + 1;

        private final Council council;
        private final Calendar calendar;
        private final State coming = new State();
        private final int[] met = new int[3 * MOST_ROWS];
        // By how many TASTES a THING looks so (nothing, or a COLOUR) behind so many YEARS.
        private final int[] tally = new int[MOST_YEARS * MOST_OF_A_KIND * LOOKS];
        int rows = 0;
        int bestYears = NONE;
        int bestThing = NONE;
        int bestMost = NONE;

        Guess(Council council, Calendar calendar) {
            this.council = council;
            this.calendar = calendar;
        }

        /** Whether the tape tells MET; only then it is MET from now on. */
        boolean take(Tape tape, Land land) {
            int told = tape.length / 3;
            if (told < 1 || told > MOST_ROWS || tape.length % 3 != 0) {
                return false;
            }
            for (int i = 0; i < told; i++) {
                int colour = tape.byteAt(3 * i + 2);
                if (tape.byteAt(3 * i) > MOST_YEARS || !land.isThere(Land.THING, tape.byteAt(3 * i + 1))
                        || (colour != NO_COLOUR_BYTE && !land.isThere(Land.COLOUR, colour))) {
                    return false;
                }
            }
            for (int i = 0; i < 3 * told; i++) {
                met[i] = tape.byteAt(i);
            }
            rows = told;
            return true;
        }

        /** TASTES by MET, as bits. */
        int left(Land land, State now, int blind) {
            int longest = 0;
            for (int i = 0; i < rows; i++) {
                longest = met[3 * i] > longest ? met[3 * i] : longest;
            }
            if (rows == 0) {
                return (1 << TASTES) - 1;
            }
            if (now.year + longest > LAST_YEAR) {
                return 0;
            }
            int tastes = 0;
            for (int warm = 0; warm < TASTES; warm++) {
                council.suppose(blind, warm);
                coming.take(now);
                boolean can = agrees(0);
                for (int n = 1; n <= longest && can; n++) {
                    calendar.pass(land, coming, NONE);
                    can = agrees(n);
                }
                tastes |= can ? 1 << warm : 0;
            }
            council.suppose(NONE, 0);
            return tastes;
        }

        /** Whether it looks as all rows tell that were MET behind n YEARS. */
        private boolean agrees(int n) {
            for (int i = 0; i < rows; i++) {
                int colour = met[3 * i + 2] == NO_COLOUR_BYTE ? NONE : met[3 * i + 2];
                if (met[3 * i] == n && coming.wears[met[3 * i + 1]] != colour) {
                    return false;
                }
            }
            return true;
        }

        /** Counts how all THINGS look behind all numbers of YEARS, by each of the TASTES that are left. */
        void count(Land land, State now, int blind, int left) {
            Arrays.fill(tally, 0);
            for (int warm = 0; warm < TASTES; warm++) {
                if ((left >> warm & 1) == 0) {
                    continue;
                }
                council.suppose(blind, warm);
                coming.take(now);
                for (int n = 1; n <= MOST_YEARS && now.year + n <= LAST_YEAR; n++) {
                    calendar.pass(land, coming, NONE);
                    for (int thing = 0; thing < land.count[Land.THING]; thing++) {
                        tally[slotOf(n, thing) + coming.wears[thing] + 1]++;
                    }
                }
            }
            council.suppose(NONE, 0);
        }

        private static int slotOf(int n, int thing) {
            return ((n - 1) * MOST_OF_A_KIND + thing) * LOOKS;
        }

        /** Finds TELLING in what was counted, as far as YEARS come. */
        void findTelling(int things, int years) {
            bestMost = NONE;
            for (int n = 1; n <= MOST_YEARS && n <= years; n++) {
                for (int thing = 0; thing < things; thing++) {
                    int most = 0;
                    for (int look = 0; look < LOOKS; look++) {
                        int alike = tally[slotOf(n, thing) + look];
                        most = alike > most ? alike : most;
                    }
                    if (bestMost == NONE || most < bestMost) {
                        bestYears = n;
                        bestThing = thing;
                        bestMost = most;
                    }
                }
            }
        }
    }
}
