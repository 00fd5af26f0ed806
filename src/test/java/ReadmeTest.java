import java.lang.reflect.Method;
import java.lang.reflect.Modifier;
import java.nio.charset.StandardCharsets;
import java.nio.file.Files;
import java.nio.file.Path;
import java.util.HashMap;
import java.util.Map;
import java.util.regex.Matcher;
import java.util.regex.Pattern;

/** What README.md says is so: each call of its example has the answer told there, and each row of its tables holds. */
public final class ReadmeTest extends Checks {
    private static final Pattern CALL = Pattern.compile("x\\.(\\w+)\\(([^)]*)\\);\\s*// (-?\\d+|true|false|NONE|NOTHING)\\b.*");
    private static final Map<String, Method> CALLS = new HashMap<>();

    private static String block(String readme, String kind) {
        Matcher m = Pattern.compile("(?s)```" + kind + "\n(.*?)```").matcher(readme);
        return m.find() ? m.group(1) : "";
    }

    private static long number(String told) {
        switch (told) {
            case "true": return 1;
            case "false": return 0;
            case "NONE": return NONE;
            case "NOTHING": return NOTHING;
            default: return Long.decode(told).intValue();
        }
    }

    private static long make(BlindColours x, String name, String told) throws ReflectiveOperationException {
        String[] parts = told.isEmpty() ? new String[0] : told.split(", *");
        Object[] given = new Object[parts.length];
        for (int i = 0; i < parts.length; i++) {
            given[i] = (int) number(parts[i]);
        }
        Object answer = CALLS.get(name).invoke(x, given);
        return answer instanceof Boolean ? ((Boolean) answer ? 1 : 0) : ((Number) answer).longValue();
    }

    private static void theExample(String readme) throws ReflectiveOperationException {
        String text = block(readme, "text");
        BlindColours x = new BlindColours();
        int made = 0;
        for (String line : block(readme, "java").split("\n")) {
            Matcher call = CALL.matcher(line);
            if (call.matches()) {
                due(0, "README.md: " + line, make(x, call.group(1), call.group(2)), number(call.group(3)));
                made++;
            } else if (line.startsWith("write(x, text);")) {
                write(x, text);
            } else {
                due(0, "README.md tells no answer: " + line, line.startsWith("x."), false);
            }
        }
        due(0, "README.md: calls in the example", made > 50, true);
    }

    private static void eachCallIsTold(String readme) {
        for (String name : CALLS.keySet()) {
            due(0, "README.md tells of " + name, Pattern.compile("`" + name + "[(`]|\\bx\\." + name + "\\(").matcher(readme).find(), true);
        }
    }

    private static void refusedCalls() {
        BlindColours x = of(SMALL);
        for (int i = 0; i < 80; i++) {
            x.feed(0, 0, 0, 0, 0);
        }
        due(2, "feed refused", x.feed(0, 0, 0, 0, 0), NONE);
        due(3, "end refused", x.end(1601), false);
        due(3, "end refused", x.end(-1), false);
        due(36, "status(0)", x.status(0), 3);
        due(4, "land refused", x.land(), NONE);
        due(36, "status(1)", x.status(1), 1);
        due(3, "the tape goes with it", x.end(1), false);
        due(25, "years refused", x.years(41), NONE);
        due(26, "chance refused", x.chance(0), NONE);
        due(36, "status(2)", x.status(2), 2);
        due(27, "paint refused", x.paint(0, NONE), false);
        due(28, "swap refused", x.swap(0, 0), false);
        due(29, "fill refused", x.fill(0), false);
        due(36, "status(3)", x.status(3), 3);
        due(30, "undo refused", x.undo(), false);
        due(36, "status(4)", x.status(4), 1);
        due(31, "seed refused", x.seed(-1), false);
        due(22, "meet refused", x.meet(), NONE);
        due(35, "on refused", x.on(), false);
        due(36, "status(5)", x.status(5), 3);
        due(6, "all stays", x.has(2), 2);
        due(6, "calls that only ask are not counted", x.has(-1), NONE);
        for (int kind = 0; kind < 6; kind++) {
            due(36, "counted", x.status(kind), new int[] {4, 1, 2, 3, 1, 3}[kind]);
        }
    }

    private static void noneAndNothing() {
        BlindColours x = of(SMALL + "counts year < 1;");
        due(11, "score, none such", x.score(1, 0, 0), NOTHING);
        due(11, "a SCORE may be -1 itself", of(SMALL + "scores 0-1;").score(0, 0, 0), -1);
        due(5, "fault(1)", x.fault(1), NONE);
        due(10, "thing(t, 3)", x.thing(0, 3), NONE);
        due(12, "word", of(blinds(1) + things(1)).word(0, 0), NONE);
        due(13, "choice, no colours", of(blinds(1) + things(1)).choice(0, 0), NONE);
        due(14, "later, nothing", x.later(1, 1), NONE);
        due(14, "later, 41", x.later(0, 41), NONE);
        due(15, "mood, 41", x.mood(0, 41), NONE);
        due(16, "purse, 41", x.purse(41), NONE);
        due(17, "order", x.order(0, 0, 0), NONE);
        due(25, "years", x.years(1), 1);
        due(13, "choice, none counts", x.choice(0, 0), NONE);
        due(20, "clear", of(colours(1) + things(2) + allNear(2) + allWear(2, 'g')).clear(), NONE);
        due(21, "odds, no blind", of(colours(1) + things(1)).odds(0), NONE);
        due(21, "odds, no things", of(colours(1) + blinds(1)).odds(0), NONE);
        due(24, "tells, no things", of(colours(1) + blinds(1)).tells(0, 0), NONE);
        BlindColours last = at(SMALL, 999, 0);
        due(21, "odds, no year comes", last.odds(0), NONE);
        due(24, "tells, no year comes", last.tells(0, 0), NONE);
        due(14, "later, beyond", last.later(0, 1), NONE);
        due(15, "mood, beyond", last.mood(0, 1), NONE);
        due(16, "purse, beyond", last.purse(1), NONE);
        due(22, "meet what is not so", meet(x, 0, 0, 255), 1);
        due(24, "tells, no taste is left", x.tells(0, 0), NONE);
        due(7, "letter behind a name", x.letter(0, 0, 1), 0);
        due(27, "paint(t, NONE)", x.paint(0, NONE), true);
        due(21, "odds(NONE)", x.odds(NONE), 100);
    }

    public static void main(String[] args) throws Exception {
        for (Method m : BlindColours.class.getDeclaredMethods()) {
            if (Modifier.isPublic(m.getModifiers())) {
                CALLS.put(m.getName(), m);
            }
        }
        String readme = new String(Files.readAllBytes(Path.of("README.md")), StandardCharsets.ISO_8859_1);
        theExample(readme);
        eachCallIsTold(readme);
        refusedCalls();
        noneAndNothing();
        finish();
    }
}
