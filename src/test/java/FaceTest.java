import java.lang.reflect.Constructor;
import java.lang.reflect.Field;
import java.lang.reflect.Method;
import java.lang.reflect.Modifier;
import java.nio.file.Files;
import java.nio.file.Path;
import java.util.ArrayList;
import java.util.List;
import java.util.Set;
import java.util.TreeSet;
import java.util.regex.Matcher;
import java.util.regex.Pattern;

/** The public face, and those rules of LANGUAGE.md that a plain look at the program can tell. */
public final class FaceTest {
    private static final Set<String> FACE = Set.of(
            "public boolean LineTables.begin(int,int,int,int)", "public boolean LineTables.put(int,int,int,int)",
            "public int LineTables.reduce(int)", "public int LineTables.turn(int,int,int)",
            "public int LineTables.dual(int,int)", "public int LineTables.leave(int,int,int,boolean)",
            "public int LineTables.sum(int,int,int)", "public int LineTables.of(int,int)",
            "public int LineTables.place(int,int)", "public int LineTables.sign(int,int,int)",
            "public int LineTables.digit(int,int,int,int)", "public LineTables()",
            "public static final int LineTables.NONE");
    private static final String[] RULED_OUT = {"::", "\\bfinally\\b", "\\bsynchronized\\b", "\\bassert\\b", "\\bstatic \\{",
        "\\bRandom\\b", "\\bThread\\b", "\\bSystem\\.(?!arraycopy)", "Exact\\(", "\\bpackage\\b", "\\bjava\\.(?!util\\.)"};
    private static final Set<String> LIBRARY = Set.of("java.util.Arrays", "java.util.ArrayList", "java.util.List",
            "java.util.Iterator", "java.util.NoSuchElementException");

    public static void main(String[] args) throws Exception {
        face();
        List<Class<?>> classes = new ArrayList<>(List.of(LineTables.class.getDeclaredClasses()));
        for (Class<?> inside : classes) {
            int visible = inside.getModifiers() & (Modifier.PUBLIC | Modifier.PROTECTED);
            Check.due(inside + " is private or package-visible", visible, 0);
        }
        classes.add(LineTables.class);
        Check.due("some twelve classes at most", classes.size() <= 15, true);
        for (Class<?> one : classes) {
            members(one);
        }
        source(Files.readString(Path.of("src/main/java/LineTables.java")));
        Check.end();
    }

    private static void face() {
        Set<String> seen = new TreeSet<>();
        for (Method method : LineTables.class.getDeclaredMethods()) {
            if (!Modifier.isPrivate(method.getModifiers()) && !method.isSynthetic()) {
                seen.add(method.toString());
            }
        }
        for (Field field : LineTables.class.getDeclaredFields()) {
            if (!Modifier.isPrivate(field.getModifiers()) && !field.isSynthetic()) {
                seen.add(field.toString());
            }
        }
        for (Constructor<?> constructor : LineTables.class.getDeclaredConstructors()) {
            seen.add(constructor.toString());
        }
        Check.due("the face", seen, new TreeSet<>(FACE));
        Check.due("the class", Modifier.toString(LineTables.class.getModifiers()), "public final");
        Check.due("NONE", LineTables.NONE, -1);
    }

    private static void members(Class<?> one) {
        int fields = 0;
        for (Field field : one.getDeclaredFields()) {
            boolean isStatic = Modifier.isStatic(field.getModifiers());
            fields += isStatic ? 0 : 1;
            Check.due(field + " is static and may change", isStatic && !Modifier.isFinal(field.getModifiers()), false);
        }
        Check.due(one + " has some twenty fields at most", fields <= 25, true);
        for (Method method : one.getDeclaredMethods()) {
            Check.due(method + " has at most seven parameters", method.getParameterCount() <= 7, true);
            Check.due(method + " is a lambda", method.getName().startsWith("lambda$"), false);
            boolean named = FACE.stream().anyMatch(face -> face.contains("." + method.getName() + "("));
            boolean hidden = Modifier.isPrivate(method.getModifiers());
            Check.due(method + " is private and bears a name of the face", named && hidden, false);
        }
    }

    private static void source(String text) {
        String code = text.replaceAll("(?s)/\\*.*?\\*/", "").replaceAll("//[^\n]*", "");
        Matcher imports = Pattern.compile("import ([^;]*);").matcher(code);
        while (imports.find()) {
            Check.due("import of " + imports.group(1), LIBRARY.contains(imports.group(1)), true);
        }
        for (String form : RULED_OUT) {
            Check.due("the program has " + form, Pattern.compile(form).matcher(code).find(), false);
        }
        int longest = 0;
        Matcher methods = Pattern.compile("(?s)\n( +)[^ \n][^\n;]*\\) \\{\n.*?\n\\1\\}").matcher(code);
        while (methods.find()) {
            longest = Math.max(longest, methods.group().split("\n").length);
        }
        Check.due("methods of some sixty lines at most", longest <= 75, true);
    }
}
