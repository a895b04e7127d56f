import java.lang.reflect.Method;
import java.nio.file.Files;
import java.nio.file.Path;
import java.util.ArrayList;
import java.util.Arrays;
import java.util.List;
import java.util.Set;
import java.util.TreeSet;
import java.util.regex.Matcher;
import java.util.regex.Pattern;

/** What README.md says of the class is what the class does. */
public final class ReadmeTest {
    private static final Pattern EXAMPLE = Pattern.compile("(?s)```java\n(.*?)```");
    private static final String NEW_OBJECT = "LineTables x = new LineTables();";
    /** A call, what it answers, and words; words with brackets tell the rows of a table. */
    private static final Pattern CALL =
            Pattern.compile("x\\.(\\w+)\\(([^()]*)\\); +// (true|false|NONE|-?\\d+)(?:: (rows \\(.*|no rows|[^()]*))?");
    private static final Pattern LISTED =
            Pattern.compile("(?ms)^- `(\\w+)\\(([^`]*)\\)`: .*?[Aa]nswers .*?\n  Refused with `(\\w+)`: ");

    public static void main(String[] args) throws Exception {
        Check.watch();
        String text = Files.readString(Path.of("README.md"));
        Set<String> called = new TreeSet<>();
        Set<String> refused = new TreeSet<>();
        Matcher examples = EXAMPLE.matcher(text);
        while (examples.find()) {
            carryOut(examples.group(1), called, refused);
        }
        Set<String> face = new TreeSet<>();
        for (Method method : faceMethods()) {
            face.add(method.getName());
        }
        Check.due("calls with an example", called, face);
        Check.due("calls with an example of refusing", refused, face);
        listed(text);
        Check.end();
    }

    private static List<Method> faceMethods() {
        List<Method> face = new ArrayList<>();
        for (Method method : LineTables.class.getMethods()) {
            if (method.getDeclaringClass() == LineTables.class) {
                face.add(method);
            }
        }
        return face;
    }

    private static void carryOut(String example, Set<String> called, Set<String> refused) throws Exception {
        String[] lines = example.split("\n");
        Check.due("an example begins", lines[0], NEW_OBJECT);
        List<Matcher> calls = new ArrayList<>();
        for (int k = 1; k < lines.length; k++) {
            Matcher call = CALL.matcher(lines[k]);
            if (!call.matches()) {
                Check.due(lines[k], "no call with its answer", "such a one");
                continue;
            }
            // What is told of all tables takes many calls: so each line has an object of its own.
            Run x = after(calls);
            Check.due(lines[k], String.valueOf(make(x, call)), answer(call.group(3)));
            called.add(call.group(1));
            if (isRefusal(call)) {
                refused.add(call.group(1));
                Check.due(lines[k] + ", and what is told then", x.state(), after(calls).state());
            }
            String words = call.group(4);
            if (words != null && words.matches("rows \\(.*|no rows")) {
                Check.due(lines[k], rows(x, Integer.parseInt(numbers(call)[0])), words);
            }
            calls.add(call);
        }
    }

    private static Run after(List<Matcher> calls) throws Exception {
        Run x = new Run();
        for (Matcher call : calls) {
            make(x, call);
        }
        return x;
    }

    private static String[] numbers(Matcher call) {
        return call.group(2).split(", ");
    }

    private static String answer(String told) {
        return told.equals("NONE") ? String.valueOf(LineTables.NONE) : told;
    }

    private static Object make(Run x, Matcher call) throws Exception {
        return make(x, call.group(1), numbers(call));
    }

    /** The sign 0 is also an answer; it is one of refusing where the words tell why. */
    private static boolean isRefusal(Matcher call) {
        boolean noSign = call.group(1).equals("sign") && call.group(3).equals("0") && call.group(4) != null;
        return noSign || call.group(3).matches("false|NONE");
    }

    /** Makes the call on an object of Run or of the class itself. */
    private static Object make(Object x, String name, String[] numbers) throws Exception {
        for (Method method : x.getClass().getDeclaredMethods()) {
            Class<?>[] types = method.getParameterTypes();
            if (method.getName().equals(name) && types.length == numbers.length) {
                Object[] values = new Object[types.length];
                for (int k = 0; k < types.length; k++) {
                    values[k] = types[k] == boolean.class ? (Object) Boolean.valueOf(numbers[k])
                            : Integer.valueOf(numbers[k]);
                }
                return method.invoke(x, values);
            }
        }
        return "no such call";
    }

    private static String rows(Run x, int t) {
        StringBuilder text = new StringBuilder();
        for (int row = 0; row < x.of(t, 1); row++) {
            text.append(row == 0 ? "rows (" : ", (");
            for (int column = 0; column < x.of(t, 2); column++) {
                text.append(column == 0 ? "" : " ").append(x.number(t, row, column));
            }
            text.append(x.of(t, 3) == 1 ? ") at place " + x.place(t, row) : ")");
        }
        return text.length() == 0 ? "no rows" : text.toString();
    }

    /** All calls of the face are listed, each with what it answers for a table that is not there. */
    private static void listed(String text) throws Exception {
        List<String> found = new ArrayList<>();
        Matcher list = LISTED.matcher(text);
        while (list.find()) {
            String[] numbers = numbers(list);
            found.add(list.group(1) + " of " + numbers.length);
            Arrays.fill(numbers, "0");
            numbers[0] = "8";
            Object got = make(new LineTables(), list.group(1), numbers);
            Check.due(list.group(1) + " when it is refused", String.valueOf(got), answer(list.group(3)));
        }
        List<String> face = new ArrayList<>();
        for (Method method : faceMethods()) {
            face.add(method.getName() + " of " + method.getParameterCount());
        }
        Check.due("calls that are listed", new TreeSet<>(found), new TreeSet<>(face));
        Check.due("how many are listed", found.size(), face.size());
    }
}
