import java.io.IOException;
import java.lang.reflect.Field;
import java.lang.reflect.Method;
import java.lang.reflect.Modifier;
import java.nio.file.Files;
import java.nio.file.Path;
import java.util.ArrayList;
import java.util.HashSet;
import java.util.List;
import java.util.Set;
import java.util.regex.Matcher;
import java.util.regex.Pattern;

/** README.md: its example answers what it says, and no call and no constant is left out. */
public final class ReadmeTest {
    private static final Due due = new Due();
    private static final String MAKING = "SealProbe p = new SealProbe();";
    private static final Pattern CALL = Pattern.compile("p\\.(\\w+)\\((.*?)\\);\\s+// (-?\\d+|[A-Z]+)\\b.*");
    private static final Pattern CALL_ROW = Pattern.compile("\\| `(\\w+)\\((.*?)\\)` \\|.*\\|.*\\|");
    private static final Pattern CONSTANT = Pattern.compile("`([A-Z]+)`(?: \\||) \\(?(-\\d+)\\b");

    public static void main(String[] args) throws IOException, ReflectiveOperationException {
        List<String> lines = Files.readAllLines(Path.of("README.md"));
        example(lines);
        calls(lines);
        constants(lines);
        due.close();
    }

    private static List<String> exampleIn(List<String> lines) {
        List<String> in = new ArrayList<>();
        boolean inside = false;
        for (String line : lines) {
            if (line.startsWith("```")) {
                inside = line.equals("```java");
            } else if (inside && !line.isBlank()) {
                in.add(line.strip());
            }
        }
        return in;
    }

    private static void example(List<String> lines) throws ReflectiveOperationException {
        List<String> rows = exampleIn(lines);
        due.is("there is an example that makes an object first", !rows.isEmpty() && rows.get(0).equals(MAKING));
        due.is("it has calls", rows.size() > 1);
        SealProbe p = new SealProbe();
        for (String row : rows.subList(Math.min(1, rows.size()), rows.size())) {
            Matcher m = CALL.matcher(row);
            boolean read = m.matches();
            due.is("a call with its answer: " + row, read);
            if (read) {
                due.is(row, answer(p, m.group(1), wordsOf(m.group(2))), valueOf(m.group(3)));
            }
        }
    }

    private static List<String> wordsOf(String list) {
        return list.isBlank() ? List.of() : List.of(list.split(", "));
    }

    private static List<Method> face() {
        List<Method> all = new ArrayList<>();
        for (Method m : SealProbe.class.getDeclaredMethods()) {
            if (Modifier.isPublic(m.getModifiers())) {
                all.add(m);
            }
        }
        return all;
    }

    private static int answer(SealProbe p, String name, List<String> words) throws ReflectiveOperationException {
        for (Method m : face()) {
            if (m.getName().equals(name) && m.getParameterCount() == words.size()) {
                Object[] given = new Object[words.size()];
                for (int i = 0; i < given.length; i++) {
                    boolean truth = m.getParameterTypes()[i] == boolean.class;
                    given[i] = truth ? (Object) Boolean.valueOf(words.get(i)) : Integer.valueOf(words.get(i));
                }
                return (Integer) m.invoke(p, given);
            }
        }
        throw new NoSuchMethodException(name);
    }

    private static int valueOf(String answer) throws ReflectiveOperationException {
        return Character.isUpperCase(answer.charAt(0)) ? SealProbe.class.getField(answer).getInt(null)
                : Integer.parseInt(answer);
    }

    private static void calls(List<String> lines) {
        Set<String> listed = new HashSet<>();
        for (String line : lines) {
            Matcher m = CALL_ROW.matcher(line);
            if (m.matches()) {
                due.is("listed once: " + m.group(1), listed.add(m.group(1) + "/" + wordsOf(m.group(2)).size()));
            }
        }
        for (Method m : face()) {
            due.is("listed: " + m.getName(), listed.remove(m.getName() + "/" + m.getParameterCount()));
        }
        due.is("no such calls: " + listed, listed.isEmpty());
    }

    private static void constants(List<String> lines) throws ReflectiveOperationException {
        Set<String> told = new HashSet<>();
        for (String line : lines) {
            Matcher m = CONSTANT.matcher(line);
            while (m.find()) {
                due.is(m.group(1) + " as README.md has it", Integer.parseInt(m.group(2)), valueOf(m.group(1)));
                told.add(m.group(1));
            }
        }
        for (Field f : SealProbe.class.getFields()) {
            due.is("told: " + f.getName(), told.contains(f.getName()));
        }
    }
}
