import java.io.IOException;
import java.lang.reflect.Constructor;
import java.lang.reflect.Field;
import java.lang.reflect.Method;
import java.lang.reflect.Modifier;
import java.nio.file.Files;
import java.nio.file.Path;
import java.util.Arrays;
import java.util.HashSet;
import java.util.Set;
import java.util.TreeSet;
import java.util.regex.Matcher;
import java.util.regex.Pattern;

/** The public face as the document writes it, and the rules of LANGUAGE.md that a look at the source can tell. */
public final class FaceTest {
    private static final Check CHECK = new Check("FaceTest");
    private static final String WRONG = "IllegalArgumentException";
    private static final String MISSING = "NoSuchElementException";
    private static final String[] FACE = {
        "boolean know(int, boolean) throws [" + WRONG + "]",
        "boolean mend(int, int) throws [" + WRONG + "]",
        "int about(int, int) throws [" + MISSING + "]",
        "int byteAt(int, int) throws [" + WRONG + ", " + MISSING + "]",
        "int count(int) throws [" + MISSING + "]",
        "int cut(int, int) throws [" + WRONG + "]",
        "int ending() throws []",
        "int kind(int, int) throws [" + MISSING + ", " + WRONG + "]",
        "int letter(int) throws []",
        "int mendAll(int) throws [" + WRONG + "]",
        "int neighbour(int) throws [" + WRONG + "]",
        "int ring(int) throws [" + MISSING + "]",
        "int term(int, int, int) throws [" + WRONG + "]",
        "int total(int) throws [" + MISSING + "]",
        "int use(int, int, int) throws [" + WRONG + ", " + MISSING + "]",
        "int uses(int) throws [" + WRONG + "]",
        "int write(int, int, int, int, int, int) throws [" + WRONG + "]",
        "long crossing(int, int) throws [" + WRONG + "]",
        "long define(int, long) throws [" + WRONG + "]",
        "long fewest() throws []"};
    private static final String[] NEVER = {
        "\\btry\\b", "\\bcatch\\b", "\\bfinally\\b", "->", "::", "\\bassert\\b", "\\bsynchronized\\b", "\\bnull\\b",
        "\\bMath\\.random\\b", "\\bSystem\\.(?!arraycopy)", "Exact\\b", "\\bThread\\b", "\\bhashCode\\b", "\\btoString\\b",
        "\\bgetMessage\\b", "\\bRandom\\b", "\\bstatic \\{", "\\bObject\\b", "\\bdouble\\b", "\\bfloat\\b", "\\[\\]\\[\\]"};

    public static void main(String[] args) throws IOException {
        members();
        nested();
        source();
        CHECK.end();
    }

    private static void members() {
        CHECK.due("public and final", Modifier.toString(TermKeeper.class.getModifiers()), "public final");
        CHECK.due("NONE", TermKeeper.NONE, -1);
        Set<String> face = new TreeSet<>();
        for (Method method : TermKeeper.class.getDeclaredMethods()) {
            if (!Modifier.isPrivate(method.getModifiers())) {
                face.add(method.getReturnType().getSimpleName() + " " + method.getName() + "(" + names(method.getParameterTypes())
                        + ") throws [" + names(method.getExceptionTypes()) + "]");
                CHECK.due(method.getName(), Modifier.toString(method.getModifiers()), "public");
            }
        }
        CHECK.due("the methods", face, new TreeSet<>(Arrays.asList(FACE)));
        for (Field field : TermKeeper.class.getDeclaredFields()) {
            boolean hidden = Modifier.isPrivate(field.getModifiers());
            CHECK.due("field " + field.getName(), hidden || field.getName().equals("NONE"), true);
            if (Modifier.isStatic(field.getModifiers())) {
                CHECK.due("static field " + field.getName(), Modifier.isFinal(field.getModifiers()), true);
            }
        }
        Constructor<?>[] made = TermKeeper.class.getDeclaredConstructors();
        CHECK.due("one constructor", made.length + Modifier.toString(made[0].getModifiers()), "1public");
    }

    private static String names(Class<?>[] types) {
        String all = Arrays.toString(Arrays.stream(types).map(Class::getSimpleName).toArray());
        return all.substring(1, all.length() - 1);
    }

    private static void nested() {
        Set<String> faceNames = new HashSet<>();
        for (Method method : TermKeeper.class.getMethods()) {
            if (method.getDeclaringClass() == TermKeeper.class) {
                faceNames.add(method.getName());
            }
        }
        Class<?>[] inside = TermKeeper.class.getDeclaredClasses();
        CHECK.due("classes inside", inside.length < 12, true);
        for (Class<?> type : inside) {
            CHECK.due(type.getSimpleName(), Modifier.isStatic(type.getModifiers()) && !Modifier.isPublic(type.getModifiers()), true);
            CHECK.due("fields of " + type.getSimpleName(), type.getDeclaredFields().length <= 20, true);
            for (Method method : type.getDeclaredMethods()) {
                CHECK.due("no name of the face: " + method.getName(), faceNames.contains(method.getName()), false);
                CHECK.due("parameters of " + method.getName(), method.getParameterCount() <= 7, true);
            }
        }
    }

    private static void source() throws IOException {
        String source = Files.readString(Path.of("src/main/java/TermKeeper.java"));
        String bare = source.replaceAll("(?s)/\\*.*?\\*/", "").replaceAll("//.*", "").replaceAll("\"[^\"\n]*\"", "\"\"");
        for (String never : NEVER) {
            Matcher found = Pattern.compile(never).matcher(bare);
            CHECK.due("never " + never, found.find() ? found.group() : "", "");
        }
        Matcher imports = Pattern.compile("import ([\\w.]+);").matcher(bare);
        Set<String> taken = new TreeSet<>();
        while (imports.find()) {
            taken.add(imports.group(1));
        }
        CHECK.due("imports", taken, "[java.util.ArrayList, java.util.NoSuchElementException]");
    }
}
