import java.lang.reflect.Constructor;
import java.lang.reflect.Field;
import java.lang.reflect.Member;
import java.lang.reflect.Method;
import java.lang.reflect.Modifier;
import java.nio.charset.StandardCharsets;
import java.nio.file.Files;
import java.nio.file.Path;
import java.util.ArrayList;
import java.util.Arrays;
import java.util.List;
import java.util.Set;
import java.util.TreeSet;
import java.util.regex.Matcher;
import java.util.regex.Pattern;

/** The face that the document tells, and what of ../shared/LANGUAGE.md can be seen in the source. */
public final class FaceTest {
    private static final String FACE = "int feed(int, int, int, int, int);boolean end(int);int land();int fault(int);int has(int);"
            + "int letter(int, int, int);int blind(int, int);int colour(int, int);int thing(int, int);long score(int, int, int);"
            + "int word(int, int);int choice(int, int);int later(int, int);int mood(int, int);int purse(int);"
            + "int order(int, int, int);int orders(int, int);int power(int, int);int clear();int odds(int);int meet();"
            + "int tastes(int);int tells(int, int);int years(int);int chance(int);boolean paint(int, int);boolean swap(int, int);"
            + "boolean fill(int);boolean undo();boolean seed(int);int kept(int, int);int image();int octet(int);boolean on();"
            + "int status(int)";
    private static int wrong = 0;

    private static void must(boolean holds, String what) {
        if (!holds) {
            wrong++;
            System.out.println("the face or the language: " + what);
        }
    }

    private static void face() {
        Class<?> c = BlindColours.class;
        must(Modifier.isFinal(c.getModifiers()) && Modifier.isPublic(c.getModifiers()), "the class is public and final");
        Set<String> methods = new TreeSet<>();
        Set<String> names = new TreeSet<>();
        for (Method m : c.getDeclaredMethods()) {
            if (Modifier.isPublic(m.getModifiers())) {
                String types = Arrays.toString(m.getParameterTypes());
                methods.add(m.getReturnType() + " " + m.getName() + "(" + types.substring(1, types.length() - 1) + ")");
                names.add(m.getName());
            }
        }
        must(methods.equals(new TreeSet<>(Arrays.asList(FACE.split(";")))), "the public methods are " + methods);
        Set<String> fields = new TreeSet<>();
        for (Field f : c.getDeclaredFields()) {
            mustBeHidden(f, !f.getName().equals("NONE") && !f.getName().equals("NOTHING"));
            if (Modifier.isPublic(f.getModifiers())) {
                fields.add(Modifier.toString(f.getModifiers()) + " " + f.getType() + " " + f.getName());
            }
        }
        must(fields.toString().equals("[public static final int NONE, public static final long NOTHING]"), "fields " + fields);
        Constructor<?>[] made = c.getDeclaredConstructors();
        must(made.length == 1 && Modifier.isPublic(made[0].getModifiers()) && made[0].getParameterCount() == 0, "one constructor");
        for (Method m : c.getDeclaredMethods()) {
            mustBeHidden(m, !Modifier.isPublic(m.getModifiers()));
            must(Modifier.isPublic(m.getModifiers()) || !names.contains(m.getName()), "a private method is called " + m.getName());
        }
        inside(c, names);
    }

    private static void mustBeHidden(Member m, boolean asked) {
        must(!asked || Modifier.isPrivate(m.getModifiers()) || m.getName().contains("$"), m.getName() + " is private");
    }

    private static void inside(Class<?> c, Set<String> names) {
        must(c.getDeclaredClasses().length <= 12, "some twelve classes");
        for (Class<?> in : c.getDeclaredClasses()) {
            must(Modifier.isStatic(in.getModifiers()), in + " is static");
            int fields = 0;
            for (Field f : in.getDeclaredFields()) {
                fields += Modifier.isStatic(f.getModifiers()) ? 0 : 1;
                must(!Modifier.isStatic(f.getModifiers()) || Modifier.isFinal(f.getModifiers()), f + " is final");
            }
            must(fields <= 20, in + " has at most twenty fields");
            for (Method m : in.getDeclaredMethods()) {
                must(!names.contains(m.getName()), in + " has a method called " + m.getName());
                must(m.getParameterCount() <= 7, m + " takes at most seven parameters");
            }
        }
    }

    private static void language(String source) {
        String bare = source.replaceAll("(?s)/\\*.*?\\*/", "").replaceAll("//[^\n]*", "").replaceAll("\"[^\"]*\"", "\"\"");
        String[] never = {"\\bthrow\\b", "\\btry\\b", "\\bcatch\\b", "\\bsynchronized\\b", "\\bassert\\b", "->", "::",
            "static \\{", "Exact\\b", "\\bpackage\\b", "\\bdouble\\b", "\\bfloat\\b", "\\bString\\.", "\\bequals\\b",
            "\\bhashCode\\b", "\\btoString\\b", "\\bSystem\\.(?!arraycopy)", "\\bThread\\b", "\\bRandom\\b", "\"\"\\s*\\+|\\+\\s*\"\""};
        for (String word : never) {
            must(!Pattern.compile(word).matcher(bare).find(), word + " stands in the source");
        }
        must(source.chars().allMatch(c -> c < 127), "all signs are below 127");
        Matcher imports = Pattern.compile("import ([^;]*);").matcher(bare);
        while (imports.find()) {
            must(imports.group(1).equals("java.util.Arrays"), "no import of " + imports.group(1));
        }
        long made = Pattern.compile("\\bnew\\b").matcher(bare).results().count();
        long fields = Pattern.compile("(private|final) [A-Za-z\\[\\] ]*= new\\b").matcher(bare).results().count();
        long inConstructors = Pattern.compile("^ {8,16}[a-z\\[\\]]+ = new\\b", Pattern.MULTILINE).matcher(bare).results().count();
        must(made == fields + inConstructors, "objects are made in fields and constructors alone");
        List<String> lines = new ArrayList<>(Arrays.asList(bare.split("\n")));
        for (int i = 0; i < lines.size(); i++) {
            if (lines.get(i).matches(" {4,8}[a-zA-Z].*\\) \\{")) {
                String indent = lines.get(i).replaceAll("[^ ].*", "");
                int end = lines.subList(i, lines.size()).indexOf(indent + "}");
                must(end >= 0 && end <= 60, "some sixty lines: " + lines.get(i));
            }
        }
    }

    public static void main(String[] args) throws Exception {
        face();
        language(new String(Files.readAllBytes(Path.of("src/main/java/BlindColours.java")), StandardCharsets.ISO_8859_1));
        System.out.println(wrong == 0 ? "the face and the language are as they should" : wrong + " wrong");
        if (wrong != 0) {
            System.exit(1);
        }
    }
}
