import java.lang.reflect.Constructor;
import java.lang.reflect.Field;
import java.lang.reflect.Method;
import java.lang.reflect.Modifier;
import java.nio.file.Files;
import java.nio.file.Path;
import java.util.ArrayList;
import java.util.List;
import java.util.Set;
import java.util.TreeSet;
import java.util.regex.Matcher;
import java.util.regex.Pattern;

/** The public face, and those rules of LANGUAGE.md that a plain look at the program can tell. */
public final class FaceTest {
    private static final Set<String> FACE = Set.of(
            "public boolean LineTables.begin(int,int,int,int)", "public boolean LineTables.put(int,int,int,int)",
            "public int LineTables.reduce(int)", "public int LineTables.turn(int,int,int)",
            "public int LineTables.dual(int,int)", "public int LineTables.leave(int,int,int,boolean)",
            "public int LineTables.sum(int,int,int)", "public int LineTables.of(int,int)",
            "public int LineTables.place(int,int)", "public int LineTables.sign(int,int,int)",
            "public int LineTables.digit(int,int,int,int)", "public LineTables()",
            "public static final int LineTables.NONE");
    private static final String[] LEFT_OUT = {"->", "::", "\\bcatch\\b", "\\bthrow\\b", "\\bfinally\\b",
        "\\bsynchronized\\b", "\\bassert\\b", "\\bstatic \\{", "\\bRandom\\b", "\\bThread\\b", "Exact\\(", "@"};

    public static void main(String[] args) throws Exception {
        face();
        List<Class<?>> classes = new ArrayList<>(List.of(LineTables.class.getDeclaredClasses()));
        for (Class<?> inside : classes) {
            Check.due(inside + " is static", Modifier.isStatic(inside.getModifiers()), true);
            Check.due(inside + " is not public", Modifier.isPublic(inside.getModifiers()), false);
        }
        classes.add(LineTables.class);
        Check.due("at most twelve classes", classes.size() <= 12, true);
        for (Class<?> one : classes) {
            members(one);
        }
        source(Files.readString(Path.of("src/main/java/LineTables.java")));
        Check.end();
    }

    private static void face() {
        Set<String> seen = new TreeSet<>();
        for (Method method : LineTables.class.getDeclaredMethods()) {
            if (!Modifier.isPrivate(method.getModifiers())) {
                seen.add(method.toString());
            }
        }
        for (Field field : LineTables.class.getDeclaredFields()) {
            if (!Modifier.isPrivate(field.getModifiers())) {
                seen.add(field.toString());
            }
        }
        for (Constructor<?> constructor : LineTables.class.getDeclaredConstructors()) {
            seen.add(constructor.toString());
        }
        Check.due("the face", seen, new TreeSet<>(FACE));
        Check.due("the class", Modifier.toString(LineTables.class.getModifiers()), "public final");
        Check.due("NONE", LineTables.NONE, -1);
    }

    private static void members(Class<?> one) {
        int fields = 0;
        for (Field field : one.getDeclaredFields()) {
            boolean isStatic = Modifier.isStatic(field.getModifiers());
            fields += isStatic ? 0 : 1;
            Check.due(field + " may change", isStatic && !Modifier.isFinal(field.getModifiers()), false);
        }
        Check.due(one + " has at most twenty fields", fields <= 20, true);
        for (Method method : one.getDeclaredMethods()) {
            Check.due(method + " has at most seven parameters", method.getParameterCount() <= 7, true);
            boolean named = FACE.stream().anyMatch(face -> face.contains("." + method.getName() + "("));
            boolean ofFace = one == LineTables.class && Modifier.isPublic(method.getModifiers());
            Check.due(method + " bears a name of the face", named, ofFace);
        }
    }

    private static void source(String text) {
        String code = text.replaceAll("(?s)/\\*.*?\\*/", "").replaceAll("//[^\n]*", "");
        for (String form : LEFT_OUT) {
            Check.due("the program has " + form, Pattern.compile(form).matcher(code).find(), false);
        }
        Matcher imports = Pattern.compile("import ([^;]*);").matcher(code);
        while (imports.find()) {
            Check.due("import", imports.group(1), "java.util.Arrays");
        }
        String without = code.replaceAll("(?s)\n( +)(public |)[A-Z]\\w*\\(\\) \\{.*?\n\\1\\}", "");
        Check.due("a constructor alone makes objects", without.contains("new "), false);
        int longest = 0;
        Matcher methods = Pattern.compile("(?s)\n( +)[^ \n][^\n;]*\\) \\{\n.*?\n\\1\\}").matcher(code);
        while (methods.find()) {
            longest = Math.max(longest, methods.group().split("\n").length);
        }
        Check.due("methods are short, and there are some", longest > 10 && longest <= 60, true);
    }
}
