import java.io.IOException;
import java.lang.reflect.Constructor;
import java.lang.reflect.Field;
import java.lang.reflect.Method;
import java.lang.reflect.Modifier;
import java.nio.file.Files;
import java.nio.file.Path;
import java.util.Arrays;
import java.util.HashSet;
import java.util.Set;
import java.util.TreeSet;
import java.util.regex.Matcher;
import java.util.regex.Pattern;

/** The public face as the document writes it, and the rules of LANGUAGE.md that a look at the source can tell. */
public final class FaceTest {
    private static final Check CHECK = new Check("FaceTest");
    private static final String[] FACE = {
        "boolean know(int, boolean)", "boolean mend(int, int)", "int about(int, int)", "int byteAt(int, int)",
        "int count(int)", "int cut(int, int)", "int ending()", "int kind(int, int)", "int letter(int)",
        "int mendAll(int)", "int neighbour(int)", "int ring(int)", "int term(int, int, int)", "int total(int)",
        "int use(int, int, int)", "int uses(int)", "int write(int, int, int, int, int, int)",
        "long crossing(int, int)", "long define(int, long)", "long fewest()"};
    private static final String[] NEVER = {
        "\\btry\\b", "\\bcatch\\b", "\\bfinally\\b", "->", "::", "\\bassert\\b", "\\bsynchronized\\b", "\\bnull\\b",
        "\\bMath\\.random\\b", "\\bSystem\\.(?!arraycopy)", "Exact\\b", "\\bThread\\b", "\\bhashCode\\b", "\\btoString\\b",
        "\\bgetMessage\\b", "\\bRandom\\b", "\\bstatic \\{", "\\bObject\\b", "\\bdouble\\b", "\\bfloat\\b", "\\[\\]\\[\\]"};

    public static void main(String[] args) throws IOException {
        members();
        nested();
        source();
        CHECK.end();
    }

    private static void members() {
        CHECK.due("public and final", Modifier.toString(TermKeeper.class.getModifiers()), "public final");
        CHECK.due("NONE", TermKeeper.NONE, -1);
        Set<String> face = new TreeSet<>();
        for (Method method : TermKeeper.class.getDeclaredMethods()) {
            if (!Modifier.isPrivate(method.getModifiers())) {
                String types = Arrays.toString(Arrays.stream(method.getParameterTypes()).map(Class::getSimpleName).toArray());
                face.add(method.getReturnType().getSimpleName() + " " + method.getName() + "(" + types.substring(1, types.length() - 1) + ")");
                CHECK.due(method.getName(), Modifier.toString(method.getModifiers()), "public");
            }
        }
        CHECK.due("the methods", face, new TreeSet<>(Arrays.asList(FACE)));
        for (Field field : TermKeeper.class.getDeclaredFields()) {
            boolean hidden = Modifier.isPrivate(field.getModifiers());
            CHECK.due("field " + field.getName(), hidden || field.getName().equals("NONE"), true);
            if (Modifier.isStatic(field.getModifiers())) {
                CHECK.due("static field " + field.getName(), Modifier.isFinal(field.getModifiers()), true);
            }
        }
        Constructor<?>[] made = TermKeeper.class.getDeclaredConstructors();
        CHECK.due("one constructor", made.length + Modifier.toString(made[0].getModifiers()), "1public");
    }

    private static void nested() {
        Set<String> faceNames = new HashSet<>();
        for (Method method : TermKeeper.class.getMethods()) {
            if (method.getDeclaringClass() == TermKeeper.class) {
                faceNames.add(method.getName());
            }
        }
        Class<?>[] inside = TermKeeper.class.getDeclaredClasses();
        CHECK.due("classes inside", inside.length < 12, true);
        for (Class<?> type : inside) {
            CHECK.due(type.getSimpleName(), Modifier.isStatic(type.getModifiers()) && !Modifier.isPublic(type.getModifiers()), true);
            CHECK.due("fields of " + type.getSimpleName(), type.getDeclaredFields().length <= 20, true);
            for (Method method : type.getDeclaredMethods()) {
                CHECK.due("no name of the face: " + method.getName(), faceNames.contains(method.getName()), false);
                CHECK.due("parameters of " + method.getName(), method.getParameterCount() <= 7, true);
            }
        }
    }

    private static void source() throws IOException {
        String source = Files.readString(Path.of("src/main/java/TermKeeper.java"));
        String bare = source.replaceAll("(?s)/\\*.*?\\*/", "").replaceAll("//.*", "").replaceAll("\"[^\"\n]*\"", "\"\"");
        for (String never : NEVER) {
            Matcher found = Pattern.compile(never).matcher(bare);
            CHECK.due("never " + never, found.find() ? found.group() : "", "");
        }
        Matcher imports = Pattern.compile("import ([\\w.]+);").matcher(bare);
        Set<String> taken = new TreeSet<>();
        while (imports.find()) {
            taken.add(imports.group(1));
        }
        CHECK.due("imports", taken, "[java.util.ArrayList, java.util.NoSuchElementException]");
    }
}
