import java.io.IOException;
import java.lang.reflect.Field;
import java.lang.reflect.Method;
import java.lang.reflect.Modifier;
import java.nio.file.Files;
import java.nio.file.Path;
import java.util.Set;
import java.util.TreeSet;
import java.util.regex.Matcher;
import java.util.regex.Pattern;

/** The public face as the document has it, and rules of LANGUAGE.md that a look at the class can tell. */
public final class FaceTest {
    private static final Set<String> FACE = new TreeSet<>(Set.of(
        "int letter(int)", "int blank()", "int fault()", "int jobs()", "int big(int,boolean)", "int pockets(int)",
        "int breaks(int,int,boolean)", "int swap(int,int)", "int as(int,int)", "int job(int,int)", "int next(int,int)",
        "int soonest(int,int)", "int plan(int,int)", "int cost(int)", "long mean()", "int ratio()", "int pair(int)",
        "int better()", "int count(int)", "long digest()"));

    public static void main(String[] args) throws IOException {
        constants();
        members();
        nested();
        Path root = Path.of(args.length > 0 ? args[0] : ".");
        source(root.resolve("src/main/java/PocketKeeper.java"));
        readme(Files.readString(root.resolve("README.md")));
        Due.end();
    }

    private static void constants() {
        Due.due("NONE", PocketKeeper.NONE, -1);
        Due.due("UNKNOWN", PocketKeeper.UNKNOWN, -1001);
        Due.due("OUTSIDE", PocketKeeper.OUTSIDE, -1002);
        Due.due("STATE", PocketKeeper.STATE, -1003);
        Due.due("FULL", PocketKeeper.FULL, -1004);
    }

    private static void members() {
        Due.holds("the class is public and final", Modifier.isPublic(PocketKeeper.class.getModifiers()) && Modifier.isFinal(PocketKeeper.class.getModifiers()));
        Due.due("constructors", PocketKeeper.class.getDeclaredConstructors().length, 1);
        Set<String> seen = new TreeSet<>();
        for (Method method : PocketKeeper.class.getDeclaredMethods()) {
            if (method.isSynthetic()) {
                continue;
            }
            if (Modifier.isPublic(method.getModifiers())) {
                seen.add(text(method));
            } else {
                Due.holds(method + " is private", Modifier.isPrivate(method.getModifiers()));
                Due.holds(method + " has a name of its own", !isOfFace(method.getName()));
            }
        }
        Due.holds("the face is " + seen, seen.equals(FACE));
        int open = 0;
        for (Field field : PocketKeeper.class.getDeclaredFields()) {
            open += Modifier.isPrivate(field.getModifiers()) || field.isSynthetic() ? 0 : 1;
        }
        Due.due("fields that are not private", open, 5);
    }

    private static boolean isOfFace(String name) {
        return FACE.stream().anyMatch(method -> method.contains(" " + name + "("));
    }

    private static String text(Method method) {
        StringBuilder text = new StringBuilder(method.getReturnType() + " " + method.getName() + "(");
        for (Class<?> type : method.getParameterTypes()) {
            text.append(text.toString().endsWith("(") ? "" : ",").append(type);
        }
        return text.append(")").toString();
    }

    private static void nested() {
        Due.holds("at most some twelve classes", PocketKeeper.class.getDeclaredClasses().length < 12);
        for (Class<?> inside : PocketKeeper.class.getDeclaredClasses()) {
            Due.holds(inside + " is static", Modifier.isStatic(inside.getModifiers()));
            Due.holds(inside + " is not public", !Modifier.isPublic(inside.getModifiers()) && !Modifier.isProtected(inside.getModifiers()));
            for (Method method : inside.getDeclaredMethods()) {
                Due.holds(method + " has a name of its own", !isOfFace(method.getName()));
            }
        }
    }

    private static void source(Path path) throws IOException {
        String code = Files.readString(path).replaceAll("(?s)/\\*.*?\\*/", "").replaceAll("//[^\n]*", "");
        for (String word : new String[] {"import", "package", "try", "catch", "throw", "throws", "finally", "synchronized", "assert", "protected"}) {
            Due.holds("no " + word, !Pattern.compile("\\b" + word + "\\b").matcher(code).find());
        }
        for (String sign : new String[] {"->", "::", "@", "\""}) {
            Due.holds("no " + sign, !code.contains(sign));
        }
        Matcher library = Pattern.compile("\\b([A-Z]\\w*)\\s*\\.\\s*(\\w+)").matcher(code);
        while (library.find()) {
            String used = library.group(1) + "." + library.group(2);
            Due.holds(used + " is in LANGUAGE.md", Set.of("Integer.bitCount", "Math.min").contains(used));
        }
    }

    /** README.md says how to use the class: each call and each constant is told of there. */
    private static void readme(String text) {
        for (String method : FACE) {
            String name = method.substring(method.indexOf(' ') + 1, method.indexOf('('));
            Due.holds("README.md tells of " + name, Pattern.compile("`" + name + "\\(").matcher(text).find());
        }
        for (String constant : new String[] {"NONE", "UNKNOWN", "OUTSIDE", "STATE", "FULL"}) {
            Due.holds("README.md tells of " + constant, text.contains("`" + constant + "`"));
        }
        Due.holds("README.md tells how to run the tests", text.contains(".ci/run"));
    }
}
