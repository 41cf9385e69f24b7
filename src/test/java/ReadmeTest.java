import java.io.IOException;
import java.lang.reflect.InvocationTargetException;
import java.lang.reflect.Method;
import java.nio.file.Files;
import java.nio.file.Path;
import java.util.Set;
import java.util.TreeSet;
import java.util.regex.Matcher;
import java.util.regex.Pattern;

/** README.md shows how to use the class: each call there answers what stands behind it, and the whole face is there. */
public final class ReadmeTest {
    private static final Pattern CALL = Pattern.compile("fields\\.(\\w+)\\((.*)\\); +// (throws \\w+|-?\\w+).*");

    public static void main(String[] args) throws IOException {
        Due due = new Due();
        FestivalFields fields = new FestivalFields();
        Set<String> unused = face();
        for (String line : Files.readAllLines(Path.of("README.md"))) {
            if (line.startsWith("fields.")) {
                Matcher matcher = CALL.matcher(line);
                due.yes("a call and its answer: " + line, matcher.matches());
                if (matcher.matches()) {
                    due.same(line, matcher.group(3), answer(fields, matcher.group(1), matcher.group(2)));
                    unused.remove(matcher.group(1));
                }
            }
        }
        due.same("calls that README.md does not show", "[]", unused.toString());
        due.end();
    }

    private static Set<String> face() {
        Set<String> names = new TreeSet<>();
        for (Method method : FestivalFields.class.getMethods()) {
            if (method.getDeclaringClass() == FestivalFields.class) {
                names.add(method.getName());
            }
        }
        return names;
    }

    private static String answer(FestivalFields fields, String name, String list) {
        String[] words = list.isEmpty() ? new String[0] : list.split(", *");
        Object[] values = new Object[words.length];
        for (int i = 0; i < words.length; i++) {
            values[i] = value(words[i]);
        }
        for (Method method : FestivalFields.class.getMethods()) {
            if (method.getName().equals(name) && method.getParameterCount() == values.length) {
                return called(fields, method, values);
            }
        }
        return "no such call";
    }

    private static Object value(String word) {
        if (word.equals("true") || word.equals("false")) {
            return word.equals("true");
        }
        return Long.decode(word).intValue();
    }

    private static String called(FestivalFields fields, Method method, Object[] values) {
        try {
            Object answer = method.invoke(fields, values);
            if (answer == null) {
                return "nothing";
            }
            return answer.equals(FestivalFields.NONE) ? "NONE" : answer.toString();
        } catch (InvocationTargetException e) {
            return "throws " + e.getCause().getClass().getSimpleName();
        } catch (IllegalAccessException e) {
            return "no access";
        }
    }
}
