import java.io.IOException;
import java.lang.reflect.Constructor;
import java.lang.reflect.Field;
import java.lang.reflect.Method;
import java.lang.reflect.Modifier;
import java.nio.charset.StandardCharsets;
import java.nio.file.Files;
import java.nio.file.Path;
import java.util.ArrayList;
import java.util.List;
import java.util.Set;
import java.util.TreeSet;
import java.util.regex.Matcher;
import java.util.regex.Pattern;

/** The public face of the document, and those rules of LANGUAGE.md that can be seen from outside. */
public final class FaceTest {
    private static final Path SOURCE = Path.of("src/main/java/EchoValley.java");
    private static final String FACE = "way(int,int,boolean) steps(int,int) days(int) rain(int,boolean)"
        + " weather(int,int,int) keep(int) say(int,int,int,int,int) sayingOf(int,int) turn(int,int) age(int,int)"
        + " over(int) until(int) reaches(int,int) drowns(int) heard(int,int) which(int,int,int) words(int,int)"
        + " plain(int,int) alone(int) full(int,int) person(int,int,int,int) where(int,int) hears(int,int)"
        + " first(int,int) who(int) said(int) tell(int,int) needs(int) walk(int,int,int) step(int) crowd() seed(int)"
        + " feed(int,int) wipe() text() hold(int,int) as(int,int) sheet(int,int,int) write(int,int,int)"
        + " copy(int,int,int,int,int) load(int,int) judge(int,int) image() undo() tear() count(int) status(int)";
    private static final Due due = new Due();

    public static void main(String[] args) throws IOException {
        face();
        nestedClasses();
        fields();
        methods();
        source();
        due.end();
    }

    private static List<Class<?>> classes() {
        List<Class<?>> all = new ArrayList<>();
        all.add(EchoValley.class);
        all.addAll(List.of(EchoValley.class.getDeclaredClasses()));
        return all;
    }

    private static String signature(Method m) {
        StringBuilder told = new StringBuilder(m.getName()).append('(');
        for (Class<?> type : m.getParameterTypes()) {
            told.append(told.charAt(told.length() - 1) == '(' ? "" : ",").append(type.getName());
        }
        return told.append(')').toString();
    }

    private static void face() {
        int mods = EchoValley.class.getModifiers();
        due.due("public and final", Modifier.isPublic(mods) && Modifier.isFinal(mods) ? 1 : 0, 1);
        Set<String> isPublic = new TreeSet<>();
        for (Method m : EchoValley.class.getDeclaredMethods()) {
            if (!Modifier.isPrivate(m.getModifiers())) {
                due.due(m + " answers an int", m.getReturnType() == int.class ? 1 : 0, 1);
                due.due(m + " is public, of an object", m.getModifiers(), Modifier.PUBLIC);
                isPublic.add(signature(m));
            }
        }
        Set<String> asked = new TreeSet<>(List.of(FACE.split(" ")));
        due.due("the face has 47 methods", asked.size(), 47);
        due.due("the face " + isPublic, isPublic.equals(asked) ? 1 : 0, 1);
        Constructor<?>[] constructors = EchoValley.class.getDeclaredConstructors();
        due.due("one constructor", constructors.length, 1);
        due.due("without parameters", constructors[0].getParameterCount(), 0);
        due.due("it is public", constructors[0].getModifiers(), Modifier.PUBLIC);
    }

    private static void nestedClasses() {
        due.due("rule 11: at most twelve classes", classes().size() <= 12 ? 1 : 0, 1);
        for (Class<?> c : EchoValley.class.getDeclaredClasses()) {
            int mods = c.getModifiers();
            due.due("rule 1: " + c + " is static, and not public or protected", mods & (Modifier.STATIC
                | Modifier.PUBLIC | Modifier.PROTECTED), Modifier.STATIC);
            due.due("rule 2: " + c + " has none inside", c.getDeclaredClasses().length, 0);
        }
    }

    private static void fields() {
        for (Class<?> c : classes()) {
            int ofObjects = 0;
            for (Field f : c.getDeclaredFields()) {
                int mods = f.getModifiers();
                if (Modifier.isStatic(mods)) {
                    due.due("rule 5: " + f + " is final", Modifier.isFinal(mods) ? 1 : 0, 1);
                } else {
                    ofObjects++;
                }
                if (c == EchoValley.class) {
                    due.due("rule 1: " + f + " is private", Modifier.isPrivate(mods) ? 1 : 0, 1);
                }
            }
            due.due("rule 11: " + c + " has at most 20 fields", ofObjects <= 20 ? 1 : 0, 1);
        }
    }

    private static void methods() {
        Set<String> names = new TreeSet<>();
        for (String m : FACE.split(" ")) {
            names.add(m.substring(0, m.indexOf('(')));
        }
        for (Class<?> c : classes()) {
            for (Method m : c.getDeclaredMethods()) {
                due.due("rule 11: " + m + " takes at most 7", m.getParameterCount() <= 7 ? 1 : 0, 1);
                boolean isOfFace = c == EchoValley.class && Modifier.isPublic(m.getModifiers());
                due.due("rule 1: " + m + " has a name of its own", !isOfFace && names.contains(m.getName()) ? 1 : 0, 0);
            }
        }
    }

    private static void source() throws IOException {
        String text = Files.readString(SOURCE, StandardCharsets.UTF_8);
        due.due("rule 4: signs below 128", text.chars().allMatch(c -> c == '\n' || c >= 32 && c < 127) ? 1 : 0, 1);
        String code = text.replaceAll("(?s)/\\*.*?\\*/", "").replaceAll("//[^\n]*", "")
            .replaceAll("\"[^\"\n]*\"", "\"\"");
        String[] ruledOut = {"\\bthrows?\\b", "\\btry\\b", "\\bcatch\\b", "\\bfinally\\b", "\\bsynchronized\\b",
            "\\bassert\\b", "->", "::", "\\bpackage\\b", "\\bprotected\\b", "\\bnative\\b", "\\bvolatile\\b", "\\bvar\\b",
            "\\bObject\\b", "\\bgetClass\\b", "\\bhashCode\\b", "\\btoString\\b", "Exact\\b", "\\brandom\\b",
            "\\bThread\\b", "\\bSystem\\.(?!arraycopy)", "static\\s*\\{", "\" *\\+", "\\+ *\""};
        for (String rule : ruledOut) {
            Matcher m = Pattern.compile(rule).matcher(code);
            due.due("rule 6 and others: " + rule, m.find() ? 1 : 0, 0);
        }
        Matcher imports = Pattern.compile("(?m)^import ([^;]*);").matcher(code);
        while (imports.find()) {
            due.due("rule 4: import " + imports.group(1),
                Set.of("java.util.Arrays", "java.util.ArrayList", "java.util.List").contains(imports.group(1)) ? 1 : 0, 1);
        }
        methodsAreShort(code);
    }

    /** A method begins and ends with a line of the same depth. */
    private static void methodsAreShort(String code) {
        Matcher m = Pattern.compile("(?m)^( {4}| {8})[a-zA-Z][^=;\n]*\\) \\{\n(?s:.*?)^\\1\\}$").matcher(code);
        int methods = 0;
        while (m.find()) {
            methods++;
            long lines = m.group().lines().count();
            due.due("rule 11: some 60 lines: " + m.group().lines().findFirst().orElse(""), lines <= 60 ? 1 : 0, 1);
        }
        due.due("rule 11: methods were seen", methods > 100 ? 1 : 0, 1);
    }
}
