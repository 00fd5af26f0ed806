import java.util.ArrayList;
import java.util.Arrays;
import java.util.List;

/** What the tests by hand share: how a tape is written, how an answer is looked at, what a refused call must leave alone. */
class Checks {
    static final int NONE = BlindColours.NONE;
    static final long NOTHING = BlindColours.NOTHING;
    static final int LEAST = Integer.MIN_VALUE;
    static final int GREATEST = Integer.MAX_VALUE;

    // One of the BLIND, who wants g for t and r for u; 9 comes in each YEAR.
    static final String SMALL = "blind a warm 1 loud 0 deep 0; colour r warm 0 loud 0 deep 0 cost 5;"
            + "colour g warm 9 loud 0 deep 0 cost 3; thing t warm 9 loud 0 deep 0; thing u warm 0 loud 0 deep 0;";

    // x, y say what is heard most, z says g whatever he hears; of none heard x says r, y says b.
    static final String TALK = "blind x warm 2 loud 0 deep 0; blind y warm 0 loud 2 deep 0;"
            + "blind z warm 0 loud 0 deep 9; colour r warm 9 loud 0 deep 0 cost 1; colour b warm 0 loud 9 deep 0 cost 1;"
            + "colour g warm 0 loud 0 deep 9 cost 1; thing t warm 9 loud 9 deep 9; scores match + heard * 50;";

    // Some are LATE, some do not COUNT, some wear none, two CLASH, one would hear another one: little is alike in it.
    private static final String BUSY = "blind ann warm 6 loud 1 deep 4;blind bob warm 8 loud 1 deep 5;"
            + "blind cleo warm 0 loud 1 deep 9;colour red warm 8 loud 2 deep 5 cost 4;colour blue warm 3 loud 8 deep 6 cost 6;"
            + "thing door warm 2 loud 4 deep 3;thing gate warm 1 loud 2 deep 4;thing wall warm 1 loud 4 deep 0;"
            + "late bob;near door gate;near wall gate;wears wall red;purse 3;row 45;scores match + heard * 8 - worn * 8;"
            + "counts mood > 5 or late = 1;gives 5 + bare * 2;";

    private static int wrong = 0;
    private static int checks = 0;

    /** Makes an object that stands as a test wants it, alike each time. */
    interface Maker {
        BlindColours make();
    }

    /** Calls the object (true counts 1, false 0). */
    interface Call {
        long of(BlindColours x);
    }

    static void due(int promise, String what, long got, long want) {
        checks++;
        if (got != want) {
            wrong++;
            System.out.println("promise " + promise + ": " + what + " answered " + got + ", due is " + want);
        }
    }

    static void due(int promise, String what, boolean got, boolean want) {
        due(promise, what, got ? 1 : 0, want ? 1 : 0);
    }

    static void finish() {
        System.out.println(checks + " answers looked at, " + wrong + " wrong");
        if (wrong != 0) {
            System.exit(1);
        }
    }

    // ---- the tape

    static void write(BlindColours x, int... bytes) {
        for (int i = 0; i < bytes.length; i += 20) {
            int[] five = new int[5];
            for (int k = 0; k < 20; k++) {
                five[k / 4] = five[k / 4] << 8 | (i + k < bytes.length ? bytes[i + k] : 77);
            }
            x.feed(five[0], five[1], five[2], five[3], five[4]);
        }
        x.end(bytes.length);
    }

    static void write(BlindColours x, String text) {
        write(x, text.chars().toArray());
    }

    static int tell(BlindColours x, String text) {
        write(x, text);
        return x.land();
    }

    static BlindColours of(String text) {
        BlindColours x = new BlindColours();
        if (tell(x, text) < 0) {
            wrong++;
            System.out.println("no land: " + text + ": fault " + x.fault(0) + " at " + x.fault(1));
        }
        return x;
    }

    /** The bytes with the last one of AN IMAGE behind them. */
    static int[] checked(int... bytes) {
        int[] all = Arrays.copyOf(bytes, bytes.length + 1);
        int c = 229;
        for (int b : bytes) {
            c = (5 * c + b) % 251;
        }
        all[bytes.length] = c;
        return all;
    }

    static boolean on(BlindColours x, int... bytes) {
        write(x, checked(bytes));
        return x.on();
    }

    static int meet(BlindColours x, int... rows) {
        write(x, rows);
        return x.meet();
    }

    /** The LAND at a YEAR, with a purse; the ORDER as told, all MOODS 5, nothing being worn. */
    static BlindColours at(String text, int year, int purse) {
        BlindColours x = of(text);
        int blinds = x.has(0);
        int[] bytes = new int[4 + 2 * blinds + x.has(2)];
        Arrays.fill(bytes, 255);
        bytes[0] = year / 256;
        bytes[1] = year % 256;
        bytes[2] = purse / 256;
        bytes[3] = purse % 256;
        for (int i = 0; i < blinds; i++) {
            bytes[4 + i] = i;
            bytes[4 + blinds + i] = 5;
        }
        if (!on(x, bytes)) {
            wrong++;
            System.out.println("no image at year " + year + ", purse " + purse + " of: " + text);
        }
        return x;
    }

    // ---- many of a kind: without TASTES, so that all SCORES are 0 without scores

    static String blinds(int many) {
        StringBuilder out = new StringBuilder();
        for (int i = 0; i < many; i++) {
            out.append("blind ").append((char) ('a' + i)).append(" warm 0 loud 0 deep 0;");
        }
        return out.toString();
    }

    static String colours(int many) {
        StringBuilder out = new StringBuilder();
        for (int i = 0; i < many; i++) {
            out.append("colour ").append((char) ('g' + i)).append(" warm 0 loud 0 deep 0 cost 0;");
        }
        return out.toString();
    }

    static String things(int many) {
        StringBuilder out = new StringBuilder();
        for (int i = 0; i < many; i++) {
            out.append("thing ").append((char) ('m' + i)).append(" warm 0 loud 0 deep 0;");
        }
        return out.toString();
    }

    static String allNear(int many) {
        StringBuilder out = new StringBuilder();
        for (int a = 0; a < many; a++) {
            for (int b = 0; b < a; b++) {
                out.append("near ").append((char) ('m' + a)).append(' ').append((char) ('m' + b)).append(';');
            }
        }
        return out.toString();
    }

    static String allWear(int many, char colour) {
        StringBuilder out = new StringBuilder();
        for (int i = 0; i < many; i++) {
            out.append("wears ").append((char) ('m' + i)).append(' ').append(colour).append(';');
        }
        return out.toString();
    }

    // ---- refused calls

    /** KEPT, MET, ACTS of each kind, an image, a FAULT, a text half told on the tape; each number unlike the others. */
    static BlindColours busy() {
        BlindColours x = of(BUSY);
        x.years(5);
        x.image();
        x.swap(0, 2);
        x.fill(61);
        x.chance(4);
        x.years(2);
        x.paint(2, NONE);
        meet(x, 2, 0, 0, 0, 2, 255);
        tell(x, "purse 7;late zoe;");
        write(x, "purse 123;row 8");
        return x;
    }

    /** The call is refused: its answer, its number in status(), and that all else stays (but the tape, if it goes). */
    static void refused(int promise, String what, Maker maker, Call call, long answer, int kind, boolean tapeGoes) {
        stays(promise, what, maker, call, answer, kind, tapeGoes);
        BlindColours x = maker.make();
        BlindColours like = maker.make();
        call.of(x);
        due(promise, what + ": the FAULT stays", x.fault(0), like.fault(0));
        due(promise, what + ": its place stays", x.fault(1), like.fault(1));
    }

    /** The text is refused as a LAND; all stays but the tape and what fault() tells. */
    static void refusedLand(int promise, String text, int fault, int place) {
        Call land = x -> {
            x.end(0);
            return tell(x, text);
        };
        stays(promise, text, Checks::busy, land, NONE, 1, true);
        BlindColours x = busy();
        land.of(x);
        due(promise, text + ": fault", x.fault(0), fault);
        due(promise, text + ": place", x.fault(1), place);
    }

    private static void stays(int promise, String what, Maker maker, Call call, long answer, int kind, boolean tapeGoes) {
        for (int part = 0; part < 4; part++) {
            BlindColours x = maker.make();
            BlindColours like = maker.make();
            int[] before = statuses(x);
            due(promise, what, call.of(x), answer);
            if (kind != NONE) {
                before[kind]++;
            }
            due(promise, what + ": status()", Arrays.equals(statuses(x), before), true);
            if (tapeGoes) {
                due(promise, what + ": the tape goes", like.end(0), true);
            }
            List<Long> got = part(x, part);
            List<Long> want = part(like, part);
            due(promise, what + ": all else stays (" + part + "): " + got + " for " + want, got.equals(want), true);
        }
    }

    /** The call asks alone: its answer, and that all stays as it was. */
    static void asks(int promise, String what, Maker maker, Call call, long answer) {
        refused(promise, what, maker, call, answer, NONE, false);
    }

    private static int[] statuses(BlindColours x) {
        int[] out = new int[6];
        for (int what = 0; what < 6; what++) {
            out[what] = x.status(what);
        }
        return out;
    }

    /** A part of all that an object tells; in parts, so that no object is called too often. */
    private static List<Long> part(BlindColours x, int part) {
        List<Long> out = new ArrayList<>();
        if (part == 0) {
            addWhatStands(x, out);
        } else if (part == 1) {
            addWhatComes(x, out);
        } else if (part == 2) {
            addWhatWas(x, out);
        } else {
            addTheTape(x, out);
        }
        return out;
    }

    private static void addWhatStands(BlindColours x, List<Long> out) {
        for (int what = 0; what <= 10; what++) {
            out.add((long) x.has(what));
        }
        for (int i = 0; i < 3; i++) {
            for (int what = 0; what <= 6; what++) {
                out.add((long) x.blind(i, what));
                out.add((long) x.colour(i, what));
                out.add((long) x.thing(i, what));
                out.add((long) x.letter(what % 3, i, what / 3));
            }
        }
        for (int k = 0; k < 24; k++) {
            out.add((long) x.octet(k));
        }
        for (int k = 0; k < 3 * x.has(7); k++) {
            out.add((long) x.kept(k / 3, k % 3));
        }
    }

    private static void addWhatComes(BlindColours x, List<Long> out) {
        for (int i = 0; i < 3; i++) {
            for (int k = 0; k < 3; k++) {
                out.add(x.score(i, k, 0));
                out.add(x.score(i, k, 1));
                out.add((long) x.word(i, k));
                out.add((long) x.order(i, k % 2, k));
                out.add((long) x.power(i, k));
                out.add((long) x.tells(i, k));
                out.add((long) x.later(i, 1 + 4 * k));
                out.add((long) x.mood(i, 1 + 4 * k));
            }
            out.add((long) x.choice(i, 0));
            out.add((long) x.choice(i, 1));
            out.add((long) x.orders(i, 0));
            out.add((long) x.orders(i, 1));
            out.add((long) x.purse(7 * i));
            out.add((long) x.odds(i - 1));
            out.add((long) x.tastes(i));
        }
        out.add((long) x.clear());
    }

    private static void addWhatWas(BlindColours x, List<Long> out) {
        x.chance(2);
        out.add((long) x.has(10));
        for (int i = x.has(9); i >= 0; i--) {
            for (int what = 3; what <= 9; what++) {
                out.add((long) x.has(what));
            }
            for (int k = 0; k < 3; k++) {
                out.add((long) x.blind(k, 4));
                out.add((long) x.blind(k, 5));
                out.add((long) x.thing(k, 3));
            }
            out.add(x.undo() ? 1L : 0L);
        }
    }

    private static void addTheTape(BlindColours x, List<Long> out) {
        int length = x.feed(0x3b202020, 0x20202020, 0x20202020, 0x20202020, 0x20202020);
        out.add((long) length);
        out.add(x.end(length) ? 1L : 0L);
        out.add((long) x.land());
        out.add((long) x.fault(0));
        out.add((long) x.fault(1));
        for (int what = 0; what <= 10; what++) {
            out.add((long) x.has(what));
        }
    }

    // ---- texts

    /** The text is a LAND, with so many STATEMENTS. */
    static void good(int promise, String text, int statements) {
        BlindColours x = new BlindColours();
        due(promise, text, tell(x, text), statements);
        due(promise, text + ": fault", x.fault(0), 0);
        due(promise, text + ": place", x.fault(1), NONE);
    }

    /** The text has its FAULT where the sign @ stands, which is not in it. */
    static void faulty(int promise, String text, int kind) {
        int place = text.indexOf('@');
        faulty(promise, text.substring(0, place) + text.substring(place + 1), kind, place);
    }

    static void faulty(int promise, String text, int kind, int place) {
        BlindColours x = new BlindColours();
        due(promise, text, tell(x, text), NONE);
        due(promise, text + ": fault", x.fault(0), kind);
        due(promise, text + ": place", x.fault(1), place);
        due(promise, text + ": refused", x.status(1), 1);
    }
}
