import java.util.ArrayList;
import java.util.List;
import java.util.Random;

/** Makes texts of LANDS: whole ones, and such with a FAULT somewhere. */
final class Texts {
    private static final String[] WORDS = ("blind warm loud deep colour cost thing late near wears purse row scores counts "
            + "gives year mood match worn heard bare if or and not all min max a bb ccc toolong 1 12 345 9999 12345 ; ; "
            + "+ - * / % ( ) , [ ] < > =").split(" ");

    private final Random random;

    Texts(Random random) {
        this.random = random;
    }

    private int below(int n) {
        return random.nextInt(n);
    }

    private String pick(String... of) {
        return of[below(of.length)];
    }

    private String freshName(List<String> taken) {
        for (;;) {
            StringBuilder name = new StringBuilder();
            int length = 1 + below(6);
            for (int i = 0; i < length; i++) {
                name.append((char) ('a' + below(26)));
            }
            if (!taken.contains(name.toString()) && !(" blind warm loud deep colour cost thing late near wears purse row"
                    + " scores counts gives year mood match worn heard bare if or and not all min max ")
                    .contains(" " + name + " ")) {
                taken.add(name.toString());
                return name.toString();
            }
        }
    }

    private String nature(boolean flat) {
        int most = flat ? 3 : 10;
        return " warm " + below(most) + " loud " + below(most) + " deep " + below(most);
    }

    /** The STATEMENTS of a LAND without a FAULT. */
    List<String> statements() {
        List<String> names = new ArrayList<>();
        List<List<String>> kinds = new ArrayList<>();
        List<String> out = new ArrayList<>();
        boolean flat = below(3) == 0;
        boolean big = below(2) == 0;
        for (int kind = 0; kind < 3; kind++) {
            List<String> of = new ArrayList<>();
            int many = below(12) == 0 ? below(2) : big ? 3 + below(4) : 1 + below(4);
            for (int i = 0; i < many; i++) {
                String name = freshName(names);
                of.add(name);
                out.add((kind == 0 ? "blind " : kind == 1 ? "colour " : "thing ") + name + nature(flat)
                        + (kind == 1 ? " cost " + below(pick("1", "20", "100").length() == 3 ? 100 : 15) : ""));
            }
            kinds.add(of);
        }
        java.util.Collections.shuffle(out, random);
        for (String name : kinds.get(0)) {
            if (below(3) == 0) {
                out.add("late " + name);
            }
        }
        List<String> things = kinds.get(2);
        for (int a = 0; a < things.size(); a++) {
            for (int b = 0; b < a; b++) {
                if (below(5) < 3) {
                    out.add(below(2) == 0 ? "near " + things.get(a) + " " + things.get(b)
                            : "near " + things.get(b) + " " + things.get(a));
                }
            }
        }
        int dressed = below(12);
        for (int i = 0; i < dressed && !things.isEmpty() && !kinds.get(1).isEmpty(); i++) {
            if (below(4) != 0) {
                out.add("wears " + things.get(below(things.size())) + " "
                        + kinds.get(1).get(below(kinds.get(1).size())));
            }
        }
        addTheRest(out);
        return out;
    }

    private void addTheRest(List<String> out) {
        List<String> rest = new ArrayList<>();
        int depth = below(10) == 0 ? 9 : 3;
        if (below(4) != 0) {
            rest.add("purse " + below(below(2) == 0 ? 1000 : 60));
        }
        if (below(4) != 0) {
            rest.add("row " + below(101));
        }
        if (below(3) != 0) {
            rest.add("scores " + (below(3) == 0 ? "match " + pick("+", "-") + " " + sum(depth, "scores") : usual()));
        }
        if (below(2) == 0) {
            rest.add("counts " + (below(8) == 0 ? deepTest(5 + below(4)) : test(depth, "counts")));
        }
        if (below(2) == 0) {
            rest.add("gives " + (below(8) == 0 ? deepSum(5 + below(4)) : pick("7 + ", "") + sum(depth, "gives")));
        }
        for (String s : rest) {
            out.add(below(out.size() + 1), s);
        }
        for (int i = below(30) == 0 ? 61 : 0; i > 0 && out.size() < 58 + i % 5; i--) {
            out.add(below(out.size() + 1), pick("row 5", "purse 7", "row 100", "purse 999"));
        }
    }

    /** Scores by which much hangs on who is heard ahead of whom. */
    private String usual() {
        StringBuilder out = new StringBuilder(pick("match", "match", "match * 2", "match / 3", "match % 50"));
        for (int i = 1 + below(3); i > 0; i--) {
            out.append(' ').append(pick("+", "-")).append(' ').append(pick("worn * ", "heard * ", "heard * ", "mood * ",
                    "cost / ", "year % ", "if (late = 1, heard, worn) * ", "max (heard, worn) * ")).append(1 + below(20));
        }
        return out.toString();
    }

    /** As many as that are open at once in it. */
    private String deepSum(int open) {
        if (open == 0) {
            return pick("1", "year", "year + 2 * 3");
        }
        switch (below(4)) {
            case 0:
                return "min (2, " + deepSum(open - 1) + ")";
            case 1:
                return "if (" + deepTest(open - 1) + ", 1, " + deepSum(below(open)) + ")";
            case 2:
                return "max (" + deepSum(below(open)) + " * 5, " + deepSum(open - 1) + ") + 1";
            default:
                return pick("", "3 - ") + "(" + deepSum(open - 1) + ")";
        }
    }

    private String deepTest(int open) {
        if (open == 0) {
            return pick("all", "year > 1");
        }
        switch (below(3)) {
            case 0:
                return pick("", "all and ") + "not " + deepTest(open - 1);
            case 1:
                return pick("", "all or ") + "[" + deepTest(open - 1) + "]";
            default:
                return deepSum(open) + " < 2";
        }
    }

    String sum(int depth, String formula) {
        StringBuilder out = new StringBuilder(part(depth, formula));
        for (int i = below(3); i > 0; i--) {
            out.append(' ').append(pick("+", "-", "*", "/", "%", "*", "-")).append(' ').append(part(depth, formula));
        }
        return out.toString();
    }

    private String part(int depth, String formula) {
        int which = below(depth > 0 ? depth > 5 ? 6 : 9 : 2);
        switch (which) {
            case 0:
                return "" + below(pick("a", "bb", "c").length() == 2 ? 10000 : 12);
            case 2:
            case 3:
                return "(" + sum(depth - 1, formula) + ")";
            case 4:
                return pick("min", "max") + "(" + sum(depth - 1, formula) + ", " + sum(depth - 1, formula) + ")";
            case 5:
                return "if (" + test(depth - 1, formula) + ", " + sum(depth - 1, formula) + ", "
                        + sum(depth - 1, formula) + ")";
            default:
                return formula.equals("scores") ? pick("year", "mood", "late", "match", "worn", "heard", "cost")
                        : formula.equals("counts") ? pick("year", "mood", "late") : pick("year", "purse", "bare");
        }
    }

    String test(int depth, String formula) {
        StringBuilder out = new StringBuilder(fact(depth, formula));
        for (int i = below(3); i > 0; i--) {
            out.append(' ').append(pick("and", "or")).append(' ').append(fact(depth, formula));
        }
        return out.toString();
    }

    private String fact(int depth, String formula) {
        switch (below(depth > 0 ? 7 : 1)) {
            case 1:
                return "not " + fact(depth - 1, formula);
            case 2:
                return "[" + test(depth - 1, formula) + "]";
            case 3:
                return "all";
            case 4:
                return "mood".length() == 4 && formula.equals("counts") ? "mood " + pick("<", ">", "=") + " " + below(10)
                        : "year % 3 " + pick("<", ">", "=") + " 1";
            default:
                return sum(Math.max(0, depth - 1), formula) + " " + pick("<", ">", "=") + " " + sum(0, formula);
        }
    }

    /** A text of a LAND, blanks being strewn about; 1600 bytes at most. */
    String land() {
        for (;;) {
            StringBuilder out = new StringBuilder();
            boolean airy = below(4) == 0;
            for (String statement : statements()) {
                String s = statement + (airy ? " ;\n" : ";");
                out.append(airy ? s.replace("(", " ( ").replace(" ", pick(" ", "  ", "\n")) : tight(s));
            }
            if (out.length() <= 1600) {
                return out.toString();
            }
        }
    }

    private static String tight(String s) {
        return s.replaceAll(" *([-+*/%(),<>=\\[\\];]) *", "$1");
    }

    /** A text that mostly has a FAULT. */
    String faulty() {
        StringBuilder out = new StringBuilder(below(3) == 0 ? doubled() : land());
        for (int i = below(2) + (below(2) == 0 ? below(3) : 0) + below(3); i > 0; i--) {
            int at = below(out.length() + 1);
            int to = Math.min(out.length(), at + 1 + below(below(3) == 0 ? 30 : 2));
            switch (below(8)) {
                case 0:
                    out.delete(at, to);
                    break;
                case 1:
                    out.insert(at, pick(" ", "\n", "\t", "A", "a", "9", "!", ";", "\u00e9", "(", "["));
                    break;
                case 2:
                    out.setLength(at);
                    break;
                case 3:
                    out.insert(at, out.substring(at, to));
                    break;
                case 4:
                case 5:
                    exchangeWord(out);
                    break;
                default:
                    out.insert(at, pick(" ", "") + pick(WORDS) + pick(" ", ""));
                    break;
            }
        }
        if (out.length() > 1600) {
            out.setLength(1600);
        }
        return out.toString();
    }

    /** A STATEMENT stands in it a second time, or one too many does. */
    private String doubled() {
        for (;;) {
            List<String> of = statements();
            for (int i = 1 + below(4); i > 0 && !of.isEmpty(); i--) {
                int at = below(of.size());
                String more = below(2) == 0 ? of.get(at) : pick("blind", "colour", "thing") + " "
                        + freshName(new ArrayList<>()) + nature(false) + (below(3) == 0 ? " cost 5" : "");
                of.add(below(3) == 0 ? below(of.size() + 1) : at + below(of.size() - at + 1), more);
            }
            String out = String.join(";", of) + ";";
            if (out.length() <= 1600) {
                return out;
            }
        }
    }

    /** One word, number or sign becomes another one. */
    private void exchangeWord(StringBuilder out) {
        List<int[]> places = new ArrayList<>();
        java.util.regex.Matcher m = java.util.regex.Pattern.compile("[a-z]+|[0-9]+|[^ \n]").matcher(out);
        List<String> words = new ArrayList<>();
        while (m.find()) {
            places.add(new int[] {m.start(), m.end()});
            words.add(m.group());
        }
        if (!places.isEmpty()) {
            int[] p = places.get(below(places.size()));
            String word = words.get(below(words.size()));
            boolean number = Character.isDigit(out.charAt(p[0]));
            out.replace(p[0], p[1], number && below(3) != 0 ? "" + below(pick("a", "bb").length() * 600)
                    : below(2) == 0 ? pick(WORDS) : word);
        }
    }
}
