import java.io.IOException;
import java.lang.reflect.Constructor;
import java.lang.reflect.Field;
import java.lang.reflect.Method;
import java.lang.reflect.Modifier;
import java.nio.file.Files;
import java.nio.file.Path;
import java.util.HashSet;
import java.util.List;
import java.util.Set;

/** LANGUAGE.md, as far as a look at the source and at the compiled class shows it; run from the project's root. */
public final class LanguageTest {
    private static final Set<String> FACE = Set.of("int mirror(int)", "int meet(int,int,int,int)", "int less()",
        "int kind(int,int)", "int undo()", "int told(int,int,int)", "int clear(int)", "int put(int,int)",
        "int word(int,int,int,int,int)", "int at(int,int)", "int times(int,int,int)", "int back(int,int)",
        "int without(int,int)", "int cut(int,int)", "int change(int,int)", "int shorten(int,int)", "int form(int,int)",
        "int same(int,int)", "int downs(int,boolean)", "long does(int,int,int)", "int order(int)", "int below(int,int)",
        "int roots(int)", "int root(int,int)", "int ends()", "long count()", "int longest(int)", "int forms(int)",
        "int next(int,int,int)", "int parts(int,int,int,int)", "int way(int,int,int)", "long wall(int,int,int,int)",
        "int leaf(int,int,int)", "int drop(int)", "int item(int,int,int,long)", "int copy(int,int,int,int,int)");
    private static final Set<String> CONSTANTS = Set.of("BAD", "NOT", "FULL", "GREAT", "NULL", "CAST", "INDEX", "SIZE");
    private static final List<String> RULED_OUT = List.of("->", "::", "synchronized", "assert ", "finally", "try ", "throw ",
        "package ", "native ", "Math.random", "System.out", "System.nano", "System.current", "Exact(", "new Object",
        "float ", "double ", "static {", "@", "\t");

    public static void main(String[] args) throws IOException {
        face();
        inside(MirrorBench.class);
        for (Class<?> each : MirrorBench.class.getDeclaredClasses()) {
            Due.is(each + " is static and not public", Modifier.isStatic(each.getModifiers())
                && !Modifier.isPublic(each.getModifiers()) ? 1 : 0, 1);
            inside(each);
        }
        Due.is("at most twelve classes", MirrorBench.class.getDeclaredClasses().length < 12 ? 1 : 0, 1);
        source(Files.readAllLines(Path.of("src/main/java/MirrorBench.java")));
        Due.end();
    }

    private static void face() {
        Set<String> found = new HashSet<>();
        Set<String> names = new HashSet<>();
        for (Method each : MirrorBench.class.getDeclaredMethods()) {
            if (!Modifier.isPublic(each.getModifiers())) continue;
            StringBuilder told = new StringBuilder(each.getReturnType() + " " + each.getName() + "(");
            for (Class<?> type : each.getParameterTypes()) told.append(told.charAt(told.length() - 1) == '(' ? "" : ",").append(type);
            found.add(told + ")");
            names.add(each.getName());
        }
        for (String each : FACE) Due.is("the face has " + each, found.contains(each) ? 1 : 0, 1);
        for (String each : found) Due.is("the document has " + each, FACE.contains(each) ? 1 : 0, 1);
        for (Method each : MirrorBench.class.getDeclaredMethods()) {
            if (Modifier.isPublic(each.getModifiers())) continue;
            Due.is(each + " is private", Modifier.isPrivate(each.getModifiers()) ? 1 : 0, 1);
            Due.is(each + " has no public one's name", names.contains(each.getName()) ? 1 : 0, 0);
        }
        for (Field each : MirrorBench.class.getDeclaredFields()) {
            boolean constant = CONSTANTS.contains(each.getName());
            Due.is(each + " is private or a constant", constant || Modifier.isPrivate(each.getModifiers()) ? 1 : 0, 1);
        }
        Constructor<?>[] made = MirrorBench.class.getDeclaredConstructors();
        Due.is("one constructor", made.length, 1);
        Due.is("it is public", Modifier.isPublic(made[0].getModifiers()) ? 1 : 0, 1);
        Due.is("the class is final", Modifier.isFinal(MirrorBench.class.getModifiers()) ? 1 : 0, 1);
    }

    private static void inside(Class<?> one) {
        int fields = 0;
        for (Field each : one.getDeclaredFields()) {
            if (!Modifier.isStatic(each.getModifiers())) fields++;
            else Due.is(each + " is final", Modifier.isFinal(each.getModifiers()) ? 1 : 0, 1);
        }
        Due.is("fields of " + one + " are few", fields <= 20 ? 1 : 0, 1);
        for (Method each : one.getDeclaredMethods()) {
            Due.is("parameters of " + each + " are few", each.getParameterCount() <= 7 ? 1 : 0, 1);
        }
    }

    private static void source(List<String> lines) {
        int from = 0;
        for (int n = 0; n < lines.size(); n++) {
            String line = lines.get(n);
            String code = line.strip();
            for (int k = 0; k < line.length(); k++) Due.is("sign in line " + (n + 1), line.charAt(k) < 127 ? 1 : 0, 1);
            if (code.startsWith("import ")) Due.is(code, code, "import java.util.Arrays;");
            if (code.startsWith("//") || code.startsWith("/*") || code.startsWith("*")) continue;
            for (String each : RULED_OUT) Due.is("line " + (n + 1) + " has " + each, code.contains(each) ? 1 : 0, 0);
            if (code.endsWith("{") && code.contains("(") && line.length() - code.length() <= 8 && !code.startsWith("for")) from = n;
            if (code.equals("}") && line.length() <= 9) Due.is("lines of the method to " + (n + 1), n - from < 60 ? 1 : 0, 1);
            if (code.equals("}")) from = line.length() <= 9 ? n : from;
        }
    }
}
