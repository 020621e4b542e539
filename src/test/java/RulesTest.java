import java.lang.reflect.Field;
import java.lang.reflect.Method;
import java.lang.reflect.Modifier;
import java.nio.file.Files;
import java.nio.file.Path;
import java.util.List;
import java.util.Set;
import java.util.TreeSet;
import java.util.regex.Matcher;
import java.util.regex.Pattern;

/** The rules of ../shared/LANGUAGE.md that can be told from the text of the program or from its class. */
public final class RulesTest {
    private static final Path SOURCE = Path.of("src/main/java/SluiceTurns.java");
    private static final String[] FACE = {
        "canal 4", "field 4", "tend 2", "leave 1", "open 1", "close 1", "call 1", "turn 2", "noTurns 0", "hour 1",
        "run 2", "canalOf 2", "fieldOf 2", "turnOf 2", "share 1", "would 3", "leastGates 3", "fewestBuckets 1",
        "hoursFor 1", "rightAt 1", "count 1", "undo 0", "type 1", "clearText 0", "fault 1", "play 0"};
    private static final String[] CONSTANTS = {"INVALID_ARGUMENT", "NOT_POSSIBLE", "LIMIT_REACHED", "NOT_FOUND"};
    private static final String[] NEVER = {
        "->", "::", "\\btry\\b", "\\bcatch\\b", "\\bfinally\\b", "\\bthrow\\b", "\\bthrows\\b", "\\bsynchronized\\b",
        "\\bassert\\b", "\\bpackage\\b", "\\bvar\\b", "\\binstanceof\\b", "\\bdouble\\b", "\\bfloat\\b", "static \\{",
        "Exact\\(", "\\bString\\b", "\\bThread\\b", "\\bObject\\b", "\\bequals\\b", "\\bhashCode\\b", "\\btoString\\b"};
    private static final Set<String> LIBRARY = Set.of(
        "System.arraycopy", "Arrays.fill", "Integer.bitCount", "Math.min", "Math.max");

    public static void main(String[] args) throws Exception {
        List<String> lines = Files.readAllLines(SOURCE);
        String code = withoutComments(String.join("\n", lines));
        face();
        words(code);
        library(code);
        objectsAreMadeOnceAlone(code);
        lengths(code);
        Due.end();
    }

    private static String withoutComments(String text) {
        return Pattern.compile("/\\*.*?\\*/", Pattern.DOTALL).matcher(text).replaceAll("").replaceAll("//[^\n]*", "");
    }

    private static void face() {
        Class<?> face = SluiceTurns.class;
        Due.holds("rule 1: public and final", face.getModifiers() == (Modifier.PUBLIC | Modifier.FINAL));
        Set<String> want = new TreeSet<>(List.of(FACE));
        Set<String> names = new TreeSet<>();
        for (String method : FACE) {
            names.add(method.substring(0, method.indexOf(' ')));
        }
        Set<String> open = new TreeSet<>();
        for (Method method : face.getDeclaredMethods()) {
            if (Modifier.isPrivate(method.getModifiers())) {
                Due.holds("rule 1: private " + method.getName(), !names.contains(method.getName()));
            } else {
                open.add(method.getName() + " " + method.getParameterCount());
                Due.holds("face: " + method, method.getReturnType() == int.class
                        && method.getModifiers() == Modifier.PUBLIC);
                for (Class<?> parameter : method.getParameterTypes()) {
                    Due.holds("face: " + method, parameter == int.class);
                }
            }
        }
        Due.holds("face: methods " + open, open.equals(want));
        for (Class<?> inside : face.getDeclaredClasses()) {
            Due.holds("rule 2: " + inside, Modifier.isStatic(inside.getModifiers())
                    && !Modifier.isPublic(inside.getModifiers()) && !Modifier.isProtected(inside.getModifiers()));
            Due.holds("rule 11: fields of " + inside, ownFields(inside) <= 20);
            for (Method method : inside.getDeclaredMethods()) {
                Due.holds("rule 1: " + method, !names.contains(method.getName()));
            }
        }
        Due.holds("rule 11: classes", face.getDeclaredClasses().length < 12);
        fields(face);
    }

    private static void fields(Class<?> face) {
        Set<String> open = new TreeSet<>();
        for (Field field : face.getDeclaredFields()) {
            int modifiers = field.getModifiers();
            if (!Modifier.isPrivate(modifiers)) {
                open.add(field.getName());
            }
            if (Modifier.isStatic(modifiers)) {
                Due.holds("rule 5: " + field, Modifier.isFinal(modifiers) && field.getType().isPrimitive());
            }
        }
        Due.holds("face: constants " + open, open.equals(Set.of(CONSTANTS)));
        Due.is("face: constructors", 1, face.getConstructors().length);
        Due.holds("rule 11: fields", ownFields(face) <= 20);
    }

    private static int ownFields(Class<?> of) {
        int fields = 0;
        for (Field field : of.getDeclaredFields()) {
            fields += Modifier.isStatic(field.getModifiers()) ? 0 : 1;
        }
        return fields;
    }

    private static void words(String code) {
        for (String word : NEVER) {
            Due.holds("no " + word, !Pattern.compile(word).matcher(code).find());
        }
        Matcher imports = Pattern.compile("import ([^;]*);").matcher(code);
        while (imports.find()) {
            Due.holds("rule 4: import " + imports.group(1), imports.group(1).equals("java.util.Arrays"));
        }
        for (int i = 0; i < code.length(); i++) {
            Due.holds("rule 4: signs", code.charAt(i) < 127);
        }
    }

    private static void library(String code) {
        Matcher calls = Pattern.compile("\\b([A-Z][A-Za-z]*[a-z][A-Za-z]*\\.[a-zA-Z]+)").matcher(code);
        while (calls.find()) {
            String call = calls.group(1);
            Due.holds("rule 4: " + call, LIBRARY.contains(call));
        }
    }

    /** Rule 12: a call of the face makes no object and no array at all. */
    private static void objectsAreMadeOnceAlone(String code) {
        for (String line : code.split("\n")) {
            if (line.contains("new ")) {
                boolean isRow = line.matches(" +(private )?final [A-Za-z\\[\\]]+ [a-zA-Z]+ = new .*;");
                Due.holds("rule 12: " + line.trim(), isRow || line.contains("states[i] = new Terrace();"));
            }
        }
    }

    private static void lengths(String code) {
        String name = "";
        int began = 0;
        String[] lines = code.split("\n");
        for (int i = 0; i < lines.length; i++) {
            if (lines[i].matches(" +[A-Za-z ]+\\[?\\]? ?[A-Za-z]+\\([A-Za-z, ]*\\) \\{") && !lines[i].contains(" else ")) {
                name = lines[i].trim();
                began = i;
                Due.holds("rule 11: parameters of " + name, name.split(",").length <= 7);
            } else if (lines[i].matches(" {4,8}\\}") && !name.isEmpty()) {
                Due.holds("rule 11: length of " + name, i - began <= 60);
                name = "";
            }
            Due.holds("a line too long: " + (i + 1), lines[i].length() <= 120);
        }
    }
}
