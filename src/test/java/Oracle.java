import java.math.BigInteger;
import java.util.ArrayList;
import java.util.Arrays;
import java.util.HashMap;
import java.util.LinkedHashMap;
import java.util.List;
import java.util.Map;
import java.util.regex.Matcher;
import java.util.regex.Pattern;

/** The document once more, told in another way: slow, by the words, for comparing with the class. */
public final class Oracle {
    private static final List<String> OWN = Arrays.asList(("blind, warm, loud, deep, colour, cost, thing, late, near, "
            + "wears, purse, row, scores, counts, gives, year, mood, match, worn, heard, bare, if, or, and, not, all, "
            + "min, max").split(", "));

    interface Sum {
        long of(Map<String, Long> env);
    }

    interface Test {
        boolean of(Map<String, Long> env);
    }

    static final class Being {
        String name;
        int[] nature = new int[3];
        int cost;
        boolean late;
    }

    static final class Text {
        List<Being> blinds = new ArrayList<>();
        List<Being> colours = new ArrayList<>();
        List<Being> things = new ArrayList<>();
        List<List<Integer>> nears = new ArrayList<>();
        Map<Integer, Integer> wears = new HashMap<>();
        int purse;
        int row;
        int statements;
        Sum scores;
        Test counts;
        Sum gives;

        List<Being> kind(int kind) {
            return kind == 0 ? blinds : kind == 1 ? colours : things;
        }
    }

    static final class World {
        int year;
        int purse;
        List<Integer> order = new ArrayList<>();
        int[] mood;
        int[] wears;
        List<int[]> kept = new ArrayList<>();

        World copy() {
            World w = new World();
            w.year = year;
            w.purse = purse;
            w.order = new ArrayList<>(order);
            w.mood = mood.clone();
            w.wears = wears.clone();
            w.kept = new ArrayList<>(kept);
            return w;
        }
    }

    static final class Fault extends RuntimeException {
        private static final long serialVersionUID = 1L;
        final int kind;
        final int place;

        Fault(int kind, int place) {
            super(null, null, false, false);
            this.kind = kind;
            this.place = place;
        }
    }

    // ---- the reading

    private static final class Parser {
        private final String text;
        private final Matcher matcher;
        private final Text out = new Text();
        private int pos = 0;
        private String token = "";
        private int place = 0;
        private int depth = 0;
        private String formula;

        Parser(String text) {
            this.text = text;
            matcher = Pattern.compile("([ \n]*)([a-z]+|[0-9]+|.|\\z)", Pattern.DOTALL).matcher(text);
        }

        private void next() {
            String before = token;
            if (!matcher.find(pos)) {
                throw new IllegalStateException();
            }
            token = matcher.group(2);
            place = matcher.start(2);
            pos = matcher.end();
            if (token.isEmpty()) {
                return;
            }
            if (before.equals(";") && out.statements == 59) {
                throw new Fault(6, place);
            }
            if (token.matches("[a-z0-9]+")) {
                if (before.matches("[a-z0-9]+") && matcher.group(1).isEmpty()) {
                    throw new Fault(1, place);
                }
                int most = Character.isDigit(token.charAt(0)) ? 4 : 6;
                if (token.length() > most) {
                    throw new Fault(1, place + most);
                }
            } else if (!"; + - * / % ( ) , [ ] < > =".contains(token) || token.equals(" ")) {
                throw new Fault(1, place);
            }
        }

        Text parse() {
            next();
            while (!token.isEmpty()) {
                statement();
                out.statements++;
            }
            return out;
        }

        private void must(String want) {
            if (!token.equals(want)) {
                throw new Fault(1, place);
            }
            next();
        }

        private int number(int most) {
            if (!token.matches("[0-9]+")) {
                throw new Fault(1, place);
            }
            int n = Integer.parseInt(token);
            if (n > most) {
                throw new Fault(4, place);
            }
            next();
            return n;
        }

        private void statement() {
            String word = token;
            int from = place;
            boolean tooMany = false;
            switch (word) {
                case "blind": tooMany |= out.blinds.size() == 6; break;
                case "colour": tooMany |= out.colours.size() == 6; break;
                case "thing": tooMany |= out.things.size() == 6; break;
                case "scores": tooMany |= out.scores != null; break;
                case "counts": tooMany |= out.counts != null; break;
                case "gives": tooMany |= out.gives != null; break;
                case "late": case "near": case "wears": case "purse": case "row": break;
                default: throw new Fault(1, place);
            }
            if (tooMany) {
                throw new Fault(6, from);
            }
            next();
            if (word.equals("blind") || word.equals("colour") || word.equals("thing")) {
                Being b = new Being();
                b.name = anyName();
                for (List<Being> l : Arrays.asList(out.blinds, out.colours, out.things)) {
                    if (index(l, b.name) >= 0) {
                        throw new Fault(2, place);
                    }
                }
                next();
                String[] words = {"warm", "loud", "deep"};
                for (int i = 0; i < 3; i++) {
                    must(words[i]);
                    b.nature[i] = number(9);
                }
                if (word.equals("colour")) {
                    must("cost");
                    b.cost = number(99);
                }
                (word.equals("blind") ? out.blinds : word.equals("colour") ? out.colours : out.things).add(b);
            } else if (word.equals("late")) {
                int b = index(out.blinds, anyName());
                if (b < 0 || out.blinds.get(b).late) {
                    throw new Fault(3, place);
                }
                out.blinds.get(b).late = true;
                next();
            } else if (word.equals("near")) {
                int a = index(out.things, anyName());
                if (a < 0) {
                    throw new Fault(3, place);
                }
                next();
                int b = index(out.things, anyName());
                if (b < 0 || a == b || out.nears.contains(Arrays.asList(a, b))
                        || out.nears.contains(Arrays.asList(b, a))) {
                    throw new Fault(3, place);
                }
                out.nears.add(Arrays.asList(a, b));
                next();
            } else if (word.equals("wears")) {
                int t = index(out.things, anyName());
                if (t < 0) {
                    throw new Fault(3, place);
                }
                next();
                int c = index(out.colours, anyName());
                if (c < 0) {
                    throw new Fault(3, place);
                }
                next();
                out.wears.put(t, c);
            } else if (word.equals("purse")) {
                out.purse = number(999);
            } else if (word.equals("row")) {
                out.row = number(100);
            } else {
                formula = word;
                if (word.equals("scores")) {
                    out.scores = sum();
                } else if (word.equals("gives")) {
                    out.gives = sum();
                } else {
                    out.counts = test();
                }
            }
            must(";");
        }

        private String anyName() {
            if (!token.matches("[a-z]+") || OWN.contains(token)) {
                throw new Fault(1, place);
            }
            return token;
        }

        private static int index(List<Being> list, String name) {
            for (int i = 0; i < list.size(); i++) {
                if (list.get(i).name.equals(name)) {
                    return i;
                }
            }
            return -1;
        }

        private void enter() {
            depth++;
            if (depth == 8) {
                throw new Fault(5, place);
            }
            next();
        }

        private void leave(String sign) {
            depth--;
            must(sign);
        }

        private static long cut(long v) {
            return Math.max(-1000000, Math.min(1000000, v));
        }

        private Sum sum() {
            Sum left = product();
            while (token.equals("+") || token.equals("-")) {
                boolean plus = token.equals("+");
                next();
                Sum a = left;
                Sum b = product();
                left = e -> cut(plus ? a.of(e) + b.of(e) : a.of(e) - b.of(e));
            }
            return left;
        }

        private Sum product() {
            Sum left = part();
            while (token.equals("*") || token.equals("/") || token.equals("%")) {
                char sign = token.charAt(0);
                next();
                Sum a = left;
                Sum b = part();
                left = e -> {
                    long x = a.of(e);
                    long y = b.of(e);
                    if (sign == '*') {
                        return cut(x * y);
                    }
                    return y == 0 ? 0 : cut(sign == '/' ? Math.floorDiv(x, y) : x - y * Math.floorDiv(x, y));
                };
            }
            return left;
        }

        private Sum part() {
            String word = token;
            if (word.matches("[0-9]+")) {
                next();
                return e -> Integer.parseInt(word);
            }
            if (word.equals("(")) {
                enter();
                Sum inner = sum();
                leave(")");
                return inner;
            }
            if (word.equals("min") || word.equals("max") || word.equals("if")) {
                next();
                if (!token.equals("(")) {
                    throw new Fault(1, place);
                }
                enter();
                Test t = null;
                if (word.equals("if")) {
                    t = test();
                    must(",");
                }
                Test test = t;
                Sum a = sum();
                must(",");
                Sum b = sum();
                leave(")");
                return e -> word.equals("min") ? Math.min(a.of(e), b.of(e))
                        : word.equals("max") ? Math.max(a.of(e), b.of(e)) : test.of(e) ? a.of(e) : b.of(e);
            }
            String allowed = formula.equals("scores") ? "year mood late match worn heard cost"
                    : formula.equals("counts") ? "year mood late" : "year purse bare";
            if (!Arrays.asList(allowed.split(" ")).contains(word)) {
                throw new Fault(1, place);
            }
            next();
            return e -> e.get(word);
        }

        private Test test() {
            Test left = both();
            while (token.equals("or")) {
                next();
                Test a = left;
                Test b = both();
                left = e -> a.of(e) || b.of(e);
            }
            return left;
        }

        private Test both() {
            Test left = fact();
            while (token.equals("and")) {
                next();
                Test a = left;
                Test b = fact();
                left = e -> a.of(e) && b.of(e);
            }
            return left;
        }

        private Test fact() {
            if (token.equals("not")) {
                enter();
                Test t = fact();
                depth--;
                return e -> !t.of(e);
            }
            if (token.equals("[")) {
                enter();
                Test t = test();
                leave("]");
                return t;
            }
            if (token.equals("all")) {
                next();
                return e -> true;
            }
            Sum a = sum();
            String sign = token;
            if (!sign.equals("<") && !sign.equals(">") && !sign.equals("=")) {
                throw new Fault(1, place);
            }
            next();
            Sum b = sum();
            return e -> sign.equals("<") ? a.of(e) < b.of(e) : sign.equals(">") ? a.of(e) > b.of(e)
                    : a.of(e) == b.of(e);
        }
    }

    // ---- the object

    private StringBuilder tape = new StringBuilder();
    private Text text = new Text();
    private World world = fresh(text);
    private List<World> past = new ArrayList<>();
    private List<int[]> met = new ArrayList<>();
    private List<Integer> image = new ArrayList<>();
    private int[] refused = new int[6];
    private int[] fault = {0, -1};
    private BigInteger x = BigInteger.ONE;

    private static World fresh(Text t) {
        World w = new World();
        w.purse = t.purse;
        w.mood = new int[t.blinds.size()];
        Arrays.fill(w.mood, 5);
        for (int i = 0; i < t.blinds.size(); i++) {
            w.order.add(i);
        }
        w.wears = new int[t.things.size()];
        for (int i = 0; i < w.wears.length; i++) {
            w.wears[i] = t.wears.getOrDefault(i, -1);
        }
        return w;
    }

    private int no(int kind) {
        refused[kind]++;
        return -1;
    }

    private boolean never(int kind) {
        refused[kind]++;
        return false;
    }

    private int n(int kind) {
        return text.kind(kind).size();
    }

    private boolean there(int kind, int i) {
        return kind >= 0 && kind <= 2 && i >= 0 && i < n(kind);
    }

    private String takeTape() {
        String s = tape.toString();
        tape.setLength(0);
        return s;
    }

    public int feed(int a, int b, int c, int d, int e) {
        if (tape.length() > 1580) {
            return no(0);
        }
        for (int v : new int[] {a, b, c, d, e}) {
            tape.append((char) (v >>> 24)).append((char) (v >>> 16 & 255)).append((char) (v >>> 8 & 255))
                    .append((char) (v & 255));
        }
        return tape.length();
    }

    public boolean end(int n) {
        if (n < 0 || n > tape.length()) {
            return never(0);
        }
        tape.setLength(n);
        return true;
    }

    public int land() {
        try {
            text = new Parser(takeTape()).parse();
        } catch (Fault f) {
            fault = new int[] {f.kind, f.place};
            return no(1);
        }
        fault = new int[] {0, -1};
        world = fresh(text);
        past.clear();
        met.clear();
        return text.statements;
    }

    public int fault(int what) {
        return what == 0 || what == 1 ? fault[what] : -1;
    }

    private int clashes(int[] wears) {
        int found = 0;
        for (List<Integer> pair : text.nears) {
            int a = wears[pair.get(0)];
            found += a != -1 && a == wears[pair.get(1)] ? 1 : 0;
        }
        return found;
    }

    private static int wearing(World w, int colour) {
        return (int) Arrays.stream(w.wears).filter(c -> c == colour).count();
    }

    public int has(int what) {
        int[] all = {n(0), n(1), n(2), world.year, world.purse, wearing(world, -1), clashes(world.wears),
            Math.min(40, world.kept.size()), met.size(), Math.min(20, past.size()), x.intValueExact()};
        return what >= 0 && what < all.length ? all[what] : -1;
    }

    public int letter(int kind, int which, int k) {
        if (!there(kind, which) || k < 0 || k > 5) {
            return -1;
        }
        String name = text.kind(kind).get(which).name;
        return k < name.length() ? name.charAt(k) - 96 : 0;
    }

    private boolean counts(Text t, World w, int blind) {
        return t.counts == null || t.counts.of(person(t, w, blind));
    }

    private static Map<String, Long> person(Text t, World w, int blind) {
        Map<String, Long> env = new HashMap<>();
        env.put("year", (long) w.year);
        env.put("mood", (long) w.mood[blind]);
        env.put("late", t.blinds.get(blind).late ? 1L : 0L);
        return env;
    }

    public int blind(int blind, int what) {
        if (!there(0, blind) || what < 0 || what > 6) {
            return -1;
        }
        Being b = text.blinds.get(blind);
        return what < 3 ? b.nature[what] : what == 3 ? (b.late ? 1 : 0) : what == 4 ? world.mood[blind]
                : what == 5 ? world.order.indexOf(blind) : counts(text, world, blind) ? 1 : 0;
    }

    public int colour(int colour, int what) {
        if (!there(1, colour) || what < 0 || what > 4) {
            return -1;
        }
        Being b = text.colours.get(colour);
        return what < 3 ? b.nature[what] : what == 3 ? b.cost : wearing(world, colour);
    }

    public int thing(int thing, int what) {
        if (!there(2, thing) || what < 0 || what > 4) {
            return -1;
        }
        int near = 0;
        for (List<Integer> pair : text.nears) {
            near += pair.contains(thing) ? 1 : 0;
        }
        return what < 3 ? text.things.get(thing).nature[what] : what == 3 ? world.wears[thing] : near;
    }

    private static long score(Text t, World w, int blind, int thing, int colour, int heard) {
        long match = 0;
        for (int i = 0; i < 3; i++) {
            match += t.blinds.get(blind).nature[i]
                    * (9 - Math.abs(t.things.get(thing).nature[i] - t.colours.get(colour).nature[i]));
        }
        if (t.scores == null) {
            return match;
        }
        Map<String, Long> env = person(t, w, blind);
        env.put("match", match);
        env.put("worn", (long) wearing(w, colour));
        env.put("heard", (long) heard);
        env.put("cost", (long) t.colours.get(colour).cost);
        return t.scores.of(env);
    }

    public long score(int blind, int thing, int colour) {
        return there(0, blind) && there(2, thing) && there(1, colour)
                ? score(text, world, blind, thing, colour, 0) : -1000000000000000L;
    }

    private static int word(Text t, World w, int blind, int thing, int[] heard) {
        int best = -1;
        for (int c = t.colours.size() - 1; c >= 0; c--) {
            if (best < 0 || score(t, w, blind, thing, c, heard[c]) >= score(t, w, blind, thing, best, heard[best])) {
                best = c;
            }
        }
        return best;
    }

    public int word(int blind, int thing) {
        return there(0, blind) && there(2, thing) ? word(text, world, blind, thing, new int[6]) : -1;
    }

    /** The COLOUR, how many words count for it, then the words by the numbers of the BLIND (-2: not asked). */
    private int[] choice(Text t, World w, int thing, List<Integer> asked) {
        int[] out = new int[2 + t.blinds.size()];
        Arrays.fill(out, -2);
        int[] heard = new int[6];
        for (int b : asked) {
            int word = word(t, w, b, thing, heard);
            out[2 + b] = word;
            if (word >= 0 && counts(t, w, b)) {
                heard[word]++;
            }
        }
        int most = Arrays.stream(heard).max().getAsInt();
        out[0] = -1;
        out[1] = -1;
        for (int c = 5; c >= 0 && most > 0; c--) {
            if (heard[c] == most) {
                out[0] = c;
                out[1] = most;
            }
        }
        return out;
    }

    public int choice(int thing, int what) {
        return there(2, thing) && (what == 0 || what == 1) ? choice(text, world, thing, world.order)[what] : -1;
    }

    private boolean pass(Text t, World w, int silent) {
        Map<String, Long> env = new HashMap<>();
        env.put("year", (long) w.year);
        env.put("purse", (long) w.purse);
        env.put("bare", (long) wearing(w, -1));
        long given = t.gives == null ? 9 : t.gives.of(env);
        w.purse = (int) Math.min(9999, w.purse + Math.min(99, Math.max(0, given)));
        boolean painted = false;
        if (!t.things.isEmpty()) {
            int thing = w.year % t.things.size();
            List<Integer> asked = new ArrayList<>(w.order);
            asked.remove((Integer) silent);
            int[] choice = choice(t, w, thing, asked);
            int c = choice[0];
            if (c >= 0 && t.colours.get(c).cost <= w.purse && w.wears[thing] != c) {
                w.wears[thing] = c;
                w.purse -= t.colours.get(c).cost;
                w.kept.add(new int[] {w.year, thing, c});
                painted = true;
            }
            for (int b = 0; b < t.blinds.size() && c >= 0; b++) {
                w.mood[b] = choice[2 + b] == c ? Math.min(9, w.mood[b] + 1) : Math.max(0, w.mood[b] - 1);
            }
        }
        w.year = Math.min(999, w.year + 1);
        return painted;
    }

    private World ahead(Text t, int n) {
        World w = world.copy();
        for (int i = 0; i < n; i++) {
            pass(t, w, -1);
        }
        return w;
    }

    private boolean comes(int n) {
        return n >= 0 && n <= 40 && world.year + n <= 999;
    }

    public int later(int thing, int n) {
        return there(2, thing) && comes(n) ? ahead(text, n).wears[thing] : -1;
    }

    public int mood(int blind, int n) {
        return there(0, blind) && comes(n) ? ahead(text, n).mood[blind] : -1;
    }

    public int purse(int n) {
        return comes(n) ? ahead(text, n).purse : -1;
    }

    private static void permute(List<Integer> begun, int n, List<List<Integer>> out) {
        if (begun.size() == n) {
            out.add(new ArrayList<>(begun));
        }
        for (int i = 0; i < n; i++) {
            if (!begun.contains(i)) {
                begun.add(i);
                permute(begun, n, out);
                begun.remove(begun.size() - 1);
            }
        }
    }

    private List<List<Integer>> ordersFor(int thing, int colour) {
        List<List<Integer>> all = new ArrayList<>();
        permute(new ArrayList<>(), n(0), all);
        all.removeIf(o -> choice(text, world, thing, o)[0] != colour);
        return all;
    }

    public int order(int thing, int colour, int k) {
        if (!there(2, thing) || !there(1, colour) || !there(0, k)) {
            return -1;
        }
        List<List<Integer>> fit = ordersFor(thing, colour);
        return fit.isEmpty() ? -1 : fit.get(0).get(k);
    }

    public int orders(int thing, int colour) {
        return there(2, thing) && there(1, colour) ? ordersFor(thing, colour).size() : -1;
    }

    public int power(int blind, int thing) {
        if (!there(0, blind) || !there(2, thing)) {
            return -1;
        }
        int power = 0;
        for (int set = 0; set < 1 << n(0); set++) {
            int bits = set;
            if ((set & 1 << blind) == 0) {
                continue;
            }
            List<Integer> with = new ArrayList<>(world.order);
            with.removeIf(b -> (bits & 1 << b) == 0);
            List<Integer> without = new ArrayList<>(with);
            without.remove((Integer) blind);
            power += choice(text, world, thing, with)[0] == choice(text, world, thing, without)[0] ? 0 : 1;
        }
        return power;
    }

    /** All rows of COLOURS for all THINGS that wear one: which of those without a CLASH changes the least. */
    public int clear() {
        int things = n(2);
        int all = 1;
        for (int i = 0; i < things; i++) {
            all *= Math.max(1, n(1));
        }
        int best = -1;
        for (int row = 0; row < all; row++) {
            int[] wears = world.wears.clone();
            int set = 0;
            int rest = row;
            boolean told = true;
            for (int t = 0; t < things; t++) {
                int colour = n(1) == 0 ? -1 : rest % n(1);
                rest = n(1) == 0 ? 0 : rest / n(1);
                if (wears[t] == -1) {
                    told &= colour <= 0;
                } else if (wears[t] != colour) {
                    wears[t] = colour;
                    set |= 1 << t;
                }
            }
            if (told && clashes(wears) == 0 && (best == -1 || Integer.bitCount(set) < Integer.bitCount(best)
                    || Integer.bitCount(set) == Integer.bitCount(best) && set < best)) {
                best = set;
            }
        }
        return best;
    }

    public int odds(int colour) {
        if (colour != -1 && !there(1, colour) || n(0) == 0 || n(2) == 0 || world.year == 999) {
            return -1;
        }
        int found = 0;
        for (int number = 0; number < 100; number++) {
            for (int b = 0; b < n(0); b++) {
                List<Integer> asked = new ArrayList<>(world.order);
                if (number < text.row) {
                    asked.remove((Integer) b);
                }
                found += colour == -1 || choice(text, world, world.year % n(2), asked)[0] == colour ? 1 : 0;
            }
        }
        return found;
    }

    public int meet() {
        String t = takeTape();
        List<int[]> rows = new ArrayList<>();
        boolean fits = !t.isEmpty() && t.length() % 3 == 0 && t.length() <= 48;
        for (int i = 0; fits && i < t.length(); i += 3) {
            int colour = t.charAt(i + 2) == 255 ? -1 : t.charAt(i + 2);
            fits = t.charAt(i) <= 30 && there(2, t.charAt(i + 1)) && (colour == -1 || there(1, colour));
            rows.add(new int[] {t.charAt(i), t.charAt(i + 1), colour});
        }
        if (!fits) {
            return no(5);
        }
        met = rows;
        return rows.size();
    }

    private Text with(int blind, int warm) {
        Text t = new Text();
        t.blinds.addAll(text.blinds);
        t.colours = text.colours;
        t.things = text.things;
        t.scores = text.scores;
        t.counts = text.counts;
        t.gives = text.gives;
        Being b = new Being();
        b.late = text.blinds.get(blind).late;
        b.nature = new int[] {warm, text.blinds.get(blind).nature[1], text.blinds.get(blind).nature[2]};
        t.blinds.set(blind, b);
        return t;
    }

    private List<World> aheads(int blind, int warm) {
        List<World> out = new ArrayList<>();
        Text t = with(blind, warm);
        World w = world.copy();
        for (int n = 0; n <= 30 && world.year + n <= 999; n++) {
            out.add(w.copy());
            pass(t, w, -1);
        }
        return out;
    }

    public int tastes(int blind) {
        if (!there(0, blind)) {
            return -1;
        }
        int bits = 0;
        for (int warm = 0; warm <= 9 && !met.isEmpty(); warm++) {
            List<World> worlds = aheads(blind, warm);
            boolean can = true;
            for (int[] row : met) {
                can &= row[0] < worlds.size() && worlds.get(row[0]).wears[row[1]] == row[2];
            }
            bits |= can ? 1 << warm : 0;
        }
        return met.isEmpty() ? 1023 : bits;
    }

    public int tells(int blind, int what) {
        if (!there(0, blind) || what < 0 || what > 2 || n(2) == 0 || world.year == 999 || tastes(blind) == 0) {
            return -1;
        }
        int left = tastes(blind);
        List<List<World>> worlds = new ArrayList<>();
        for (int warm = 0; warm <= 9; warm++) {
            if ((left >> warm & 1) == 1) {
                worlds.add(aheads(blind, warm));
            }
        }
        int[] best = null;
        for (int n = 1; n < worlds.get(0).size(); n++) {
            for (int t = 0; t < n(2); t++) {
                Map<Integer, Integer> looks = new LinkedHashMap<>();
                for (List<World> w : worlds) {
                    looks.merge(w.get(n).wears[t], 1, Integer::sum);
                }
                int most = looks.values().stream().max(Integer::compare).get();
                if (best == null || most < best[2]) {
                    best = new int[] {n, t, most};
                }
            }
        }
        return best[what];
    }

    public int years(int n) {
        if (n < 1 || !comes(n)) {
            return no(2);
        }
        past.add(world.copy());
        int painted = 0;
        for (int i = 0; i < n; i++) {
            painted += pass(text, world, -1) ? 1 : 0;
        }
        return painted;
    }

    private int draw(int m) {
        x = x.multiply(BigInteger.valueOf(1103515245)).add(BigInteger.valueOf(12345)).mod(BigInteger.ONE.shiftLeft(31));
        return x.divide(BigInteger.valueOf(64)).mod(BigInteger.valueOf(m)).intValueExact();
    }

    public int chance(int n) {
        if (n < 1 || !comes(n)) {
            return no(2);
        }
        past.add(world.copy());
        int quarrels = 0;
        for (int i = 0; i < n; i++) {
            int silent = -1;
            if (draw(100) < text.row && n(0) > 0) {
                silent = draw(n(0));
                quarrels++;
            }
            pass(text, world, silent);
        }
        return quarrels;
    }

    public boolean paint(int thing, int colour) {
        if (!there(2, thing) || colour != -1 && !there(1, colour) || world.wears[thing] == colour) {
            return never(3);
        }
        past.add(world.copy());
        world.wears[thing] = colour;
        return true;
    }

    public boolean swap(int a, int b) {
        if (!there(0, a) || !there(0, b) || a == b) {
            return never(3);
        }
        past.add(world.copy());
        java.util.Collections.swap(world.order, a, b);
        return true;
    }

    public boolean fill(int purse) {
        if (purse < 0 || purse > 9999 || purse == world.purse) {
            return never(3);
        }
        past.add(world.copy());
        world.purse = purse;
        return true;
    }

    public boolean undo() {
        while (past.size() > 20) {
            past.remove(0);
        }
        if (past.isEmpty()) {
            return never(4);
        }
        world = past.remove(past.size() - 1);
        return true;
    }

    public boolean seed(int seed) {
        if (seed < 0) {
            return never(5);
        }
        x = BigInteger.valueOf(seed);
        return true;
    }

    public int kept(int k, int what) {
        List<int[]> told = world.kept.subList(Math.max(0, world.kept.size() - 40), world.kept.size());
        return k >= 0 && k < told.size() && what >= 0 && what <= 2 ? told.get(k)[what] : -1;
    }

    private static int check(List<Integer> bytes) {
        int c = 229;
        for (int b : bytes) {
            c = (5 * c + b) % 251;
        }
        return c;
    }

    public int image() {
        image = new ArrayList<>(Arrays.asList(world.year >> 8, world.year & 255, world.purse >> 8, world.purse & 255));
        image.addAll(world.order);
        for (int m : world.mood) {
            image.add(m);
        }
        for (int c : world.wears) {
            image.add(c & 255);
        }
        image.add(check(image));
        return image.size();
    }

    public int octet(int k) {
        return k >= 0 && k < image.size() ? image.get(k) : -1;
    }

    public boolean on() {
        List<Integer> b = new ArrayList<>();
        for (char c : takeTape().toCharArray()) {
            b.add((int) c);
        }
        int n = n(0);
        if (b.size() != 5 + 2 * n + n(2) || b.get(b.size() - 1) != check(b.subList(0, b.size() - 1))) {
            return never(5);
        }
        World w = new World();
        w.year = b.get(0) * 256 + b.get(1);
        w.purse = b.get(2) * 256 + b.get(3);
        w.order = new ArrayList<>(b.subList(4, 4 + n));
        w.mood = b.subList(4 + n, 4 + 2 * n).stream().mapToInt(v -> v).toArray();
        w.wears = b.subList(4 + 2 * n, b.size() - 1).stream().mapToInt(v -> v == 255 ? -1 : v).toArray();
        boolean fits = w.year <= 999 && w.purse <= 9999;
        for (int i = 0; i < n; i++) {
            fits &= w.order.contains(i) && w.mood[i] <= 9;
        }
        for (int c : w.wears) {
            fits &= c < n(1);
        }
        if (!fits) {
            return never(5);
        }
        world = w;
        past.clear();
        return true;
    }

    public int status(int what) {
        return what >= 0 && what < 6 ? refused[what] : -1;
    }
}
