import java.lang.reflect.Method;
import java.util.ArrayList;
import java.util.HashMap;
import java.util.List;
import java.util.Map;
import java.util.Random;

/** Long runs of calls by a fixed seed: the class and the oracle have to answer alike. */
public final class AgainstOracleTest {
    private static final Map<String, Method> OURS = methods(BlindColours.class);
    private static final Map<String, Method> THEIRS = methods(Oracle.class);
    private static final String[] CHEAP = {"has", "letter", "blind", "colour", "thing", "score", "word", "choice",
        "later", "mood", "purse", "power", "kept", "octet", "status", "fault", "image"};
    private static final String[] DEAR = {"order", "orders", "clear", "odds", "tastes", "tells"};
    private static final String[] ACTS = {"years", "chance", "paint", "swap", "fill", "undo", "undo", "seed", "years",
        "chance", "paint", "swap"};

    private final Random random;
    private final Texts texts;
    private final BlindColours ours = new BlindColours();
    private final Oracle theirs = new Oracle();
    private final List<String> told = new ArrayList<>();
    private int calls = 0;

    private AgainstOracleTest(long seed) {
        random = new Random(seed);
        texts = new Texts(random);
    }

    private static Map<String, Method> methods(Class<?> c) {
        Map<String, Method> out = new HashMap<>();
        for (Method m : c.getDeclaredMethods()) {
            if (java.lang.reflect.Modifier.isPublic(m.getModifiers())) {
                m.setAccessible(true);
                out.put(m.getName(), m);
            }
        }
        return out;
    }

    private static final class Unlike extends RuntimeException {
        private static final long serialVersionUID = 1L;

        Unlike(String text) {
            super(text);
        }
    }

    private long call(String name, int... args) {
        Object[] boxed = new Object[args.length];
        for (int i = 0; i < args.length; i++) {
            boxed[i] = args[i];
        }
        Object got;
        Object due;
        String told1 = name + java.util.Arrays.toString(args);
        try {
            due = THEIRS.get(name).invoke(theirs, boxed);
            got = OURS.get(name).invoke(ours, boxed);
        } catch (ReflectiveOperationException e) {
            throw new Unlike(told1 + " threw " + e.getCause());
        }
        calls++;
        if (!name.equals("feed")) {
            told.add(told1 + " -> " + due);
        }
        if (!got.equals(due)) {
            throw new Unlike(told1 + " answered " + got + ", due is " + due);
        }
        return due instanceof Boolean ? ((Boolean) due ? 1 : 0) : ((Number) due).longValue();
    }

    private void write(String text) {
        told.add("tape: " + text);
        for (int i = 0; i < text.length(); i += 20) {
            int[] five = new int[5];
            for (int k = 0; k < 20; k++) {
                int c = i + k < text.length() ? text.charAt(i + k) : random.nextInt(256);
                five[k / 4] = five[k / 4] << 8 | c;
            }
            call("feed", five);
        }
        call("end", text.length());
    }

    private int any(int n) {
        return random.nextInt(12) == 0 ? random.nextInt(n + 4) - 2 : random.nextInt(Math.max(1, n));
    }

    private int anyOf(int kind) {
        return any(new int[] {theirs.has(0), theirs.has(1), theirs.has(2)}[kind]);
    }

    private void ask(String name) {
        int b = anyOf(0);
        int c = anyOf(1);
        int t = anyOf(2);
        switch (name) {
            case "has": call(name, any(11)); break;
            case "letter":
                int kind = any(3);
                call(name, kind, anyOf(kind < 0 || kind > 2 ? 0 : kind), any(6));
                break;
            case "blind": call(name, b, any(7)); break;
            case "colour": call(name, c, any(5)); break;
            case "thing": call(name, t, any(5)); break;
            case "score": call(name, b, t, c); break;
            case "word": case "power": call(name, b, t); break;
            case "choice": call(name, t, any(2)); break;
            case "later": call(name, t, any(41)); break;
            case "mood": call(name, b, any(41)); break;
            case "purse": call(name, any(41)); break;
            case "kept": call(name, any(40), any(3)); break;
            case "octet": call(name, any(23)); break;
            case "status": call(name, any(6)); break;
            case "fault": call(name, any(2)); break;
            case "order": call(name, t, c, b); break;
            case "orders": call(name, t, c); break;
            case "odds": call(name, random.nextInt(5) == 0 ? -1 : c); break;
            case "tastes": call(name, b); break;
            case "tells": call(name, b, any(3)); break;
            default: call(name); break;
        }
    }

    private void act(String name) {
        switch (name) {
            case "years": case "chance":
                call(name, random.nextInt(10) == 0 ? random.nextInt(50) - 4 : 1 + random.nextInt(random.nextBoolean() ? 40 : 4));
                break;
            case "paint": call(name, anyOf(2), random.nextInt(5) == 0 ? -1 : anyOf(1)); break;
            case "swap": call(name, anyOf(0), anyOf(0)); break;
            case "fill": call(name, random.nextInt(3) == 0 ? random.nextInt(20000) - 5000 : random.nextInt(60)); break;
            case "seed": call(name, random.nextInt(8) == 0 ? -random.nextInt(9) : random.nextInt() & 0x7fffffff); break;
            default: call(name); break;
        }
    }

    private String image() {
        StringBuilder out = new StringBuilder();
        int length = (int) call("image");
        for (int i = 0; i < length; i++) {
            out.append((char) call("octet", i));
        }
        return out.toString();
    }

    private static String checked(String text) {
        int c = 229;
        for (int i = 0; i < text.length() - 1; i++) {
            c = (5 * c + text.charAt(i)) % 251;
        }
        return text.substring(0, text.length() - 1) + (char) c;
    }

    private void putOn() {
        StringBuilder bytes = new StringBuilder(image());
        int blinds = theirs.has(0);
        switch (random.nextInt(7)) {
            case 0:
                bytes.setCharAt(0, (char) 3);
                bytes.setCharAt(1, (char) (random.nextBoolean() ? 231 : 200 + random.nextInt(36)));
                break;
            case 1:
                bytes.setCharAt(2, (char) 39);
                bytes.setCharAt(3, (char) (random.nextBoolean() ? 15 : random.nextInt(30)));
                break;
            case 2:
                bytes.setCharAt(random.nextInt(bytes.length()), (char) random.nextInt(256));
                break;
            case 3:
                if (blinds > 0) {
                    bytes.setCharAt(4 + random.nextInt(blinds), (char) random.nextInt(7));
                    bytes.setCharAt(4 + blinds + random.nextInt(blinds), (char) random.nextInt(11));
                }
                break;
            case 4:
                for (int t = 0; t < theirs.has(2); t++) {
                    bytes.setCharAt(4 + 2 * blinds + t, (char) (random.nextInt(5) == 0 ? 255 : random.nextInt(7)));
                }
                break;
            default:
                break;
        }
        String text = random.nextInt(12) == 0 ? bytes.toString() : checked(bytes.toString());
        if (random.nextInt(20) == 0) {
            text = checked(text + "x");
        }
        if (random.nextInt(20) == 0) {
            text = text.substring(0, random.nextInt(text.length()));
        }
        write(text);
        call("on");
        call("has", 3);
        call("has", 7);
        call("has", 9);
    }

    /** Rows that come so, mostly, by what is so now; some are none. */
    private void meetSome() {
        StringBuilder rows = new StringBuilder();
        int many = random.nextInt(12) == 0 ? random.nextInt(19) : 1 + random.nextInt(3);
        boolean wild = random.nextInt(5) == 0;
        for (int i = 0; i < many; i++) {
            int n = wild ? random.nextInt(32) : random.nextInt(31);
            int t = wild ? random.nextInt(7) : Math.max(0, anyOf(2));
            int c = wild && random.nextBoolean() ? random.nextInt(7) : theirs.later(t, n);
            rows.append((char) n).append((char) t).append((char) (c == -1 ? 255 : c));
        }
        if (random.nextInt(20) == 0) {
            rows.append('x');
        }
        write(rows.toString());
        call("meet");
        call("has", 8);
        for (int b = 0; b < Math.max(1, theirs.has(0)); b++) {
            call("tastes", b);
        }
        call("tells", anyOf(0), 2);
    }

    private void readFaults() {
        for (int i = 0; i < 4; i++) {
            write(random.nextInt(4) == 0 ? texts.land() : texts.faulty());
            call("land");
            call("fault", 0);
            call("fault", 1);
            call("has", 4);
        }
    }

    private void live(int most) {
        write(texts.land());
        call("land");
        call("fault", 0);
        int until = calls + most;
        while (calls < until) {
            int which = random.nextInt(100);
            if (which < 55) {
                ask(CHEAP[random.nextInt(CHEAP.length)]);
            } else if (which < 65) {
                ask(DEAR[random.nextInt(DEAR.length)]);
            } else if (which < 95) {
                act(ACTS[random.nextInt(ACTS.length)]);
            } else if (which < 97) {
                putOn();
            } else if (which < 99) {
                meetSome();
            } else {
                write("");
                call(random.nextBoolean() ? "meet" : "on");
            }
        }
    }

    /** What is dear for the oracle as well as what each state tells as a whole. */
    private void askAll() {
        for (int t = -1; t <= theirs.has(2); t++) {
            for (int c = -1; c <= theirs.has(1); c++) {
                call("orders", t, c);
                call("order", t, c, 0);
            }
            call("choice", t, 0);
            call("choice", t, 1);
        }
        for (int what = -1; what <= 11; what++) {
            call("has", what);
        }
        for (int c = -2; c <= theirs.has(1); c++) {
            call("odds", c);
        }
        call("clear");
        for (int b = -1; b <= theirs.has(0); b++) {
            for (int what = -1; what < 4; what++) {
                call("tells", b, what);
            }
            call("power", b, anyOf(2));
        }
    }

    public static void main(String[] args) {
        long first = args.length > 0 ? Long.parseLong(args[0]) : 1;
        int runs = args.length > 1 ? Integer.parseInt(args[1]) : 900;
        int wrong = 0;
        long calls = 0;
        for (long seed = first; seed < first + runs && wrong < 5; seed++) {
            AgainstOracleTest test = new AgainstOracleTest(seed);
            try {
                if (seed % 3 == 0) {
                    test.readFaults();
                    test.live(60);
                } else if (seed % 3 == 1) {
                    test.live(350);
                } else {
                    test.live(60);
                    test.meetSome();
                    test.askAll();
                    test.live(60);
                }
            } catch (Unlike e) {
                wrong++;
                System.out.println("seed " + seed + ": " + e.getMessage());
                int from = Math.max(0, test.told.size() - 40);
                test.told.subList(from, test.told.size()).forEach(l -> System.out.println("    " + l));
            }
            calls += test.calls;
        }
        System.out.println(calls + " calls were compared, " + wrong + " runs were unlike");
        if (wrong != 0) {
            System.exit(1);
        }
    }
}
