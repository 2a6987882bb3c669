import java.io.IOException;
import java.lang.reflect.Constructor;
import java.lang.reflect.Field;
import java.lang.reflect.Method;
import java.lang.reflect.Modifier;
import java.nio.file.Files;
import java.nio.file.Path;
import java.util.ArrayList;
import java.util.HashSet;
import java.util.List;
import java.util.Set;
import java.util.TreeSet;
import java.util.regex.Pattern;

/** The public face, and the rules of LANGUAGE.md that can be read off the class and its text. */
public final class FaceTest {
    private static final Due due = new Due();

    private static final String[] METHODS = {
        "agent(boolean)", "atom(int)", "term(int,int,int)", "of(int,int,int)", "about(int,int)", "role()",
        "variable(int,int,int)", "event(int,boolean,int)", "know(int)", "session(int,int,int,int)", "secret(int,int)",
        "agree(int,int,int)", "join(int,int,int)", "begin()", "end()", "send(int)", "receive(int,int)", "makes(int)",
        "row(int,int)", "stands(int,int)", "done(int)", "broken(int)", "undo()", "search()", "found(int)",
        "attack(int)", "play(int)", "told(int)", "ofRole(int,int)", "clear()",
    };

    public static void main(String[] args) throws IOException {
        constants();
        methods();
        members();
        classesInside();
        text();
        due.close();
    }

    private static void constants() {
        due.is("UNKNOWN", SealProbe.UNKNOWN, -1);
        due.is("OUTSIDE", SealProbe.OUTSIDE, -2);
        due.is("STATE", SealProbe.STATE, -3);
        due.is("FULL", SealProbe.FULL, -4);
        due.is("NO", SealProbe.NO, -5);
        due.is("NONE", SealProbe.NONE, -6);
        due.is("OPEN", SealProbe.OPEN, -7);
    }

    private static String signature(Method m) {
        List<String> types = new ArrayList<>();
        for (Class<?> c : m.getParameterTypes()) {
            types.add(c.getSimpleName());
        }
        return m.getName() + "(" + String.join(",", types) + ")";
    }

    private static void methods() {
        Set<String> have = new TreeSet<>();
        for (Method m : SealProbe.class.getDeclaredMethods()) {
            if (!Modifier.isPrivate(m.getModifiers())) {
                have.add(signature(m));
                due.is(m.getName() + " is public", Modifier.isPublic(m.getModifiers()));
                due.is(m.getName() + " answers an int", m.getReturnType() == int.class);
            }
        }
        due.is("the methods of the document and no other: " + have, have.equals(new TreeSet<>(List.of(METHODS))));
    }

    private static void members() {
        due.is("the class is final", Modifier.isFinal(SealProbe.class.getModifiers()));
        due.is("one constructor", SealProbe.class.getDeclaredConstructors().length, 1);
        for (Constructor<?> c : SealProbe.class.getDeclaredConstructors()) {
            due.is("a public one without parameters", Modifier.isPublic(c.getModifiers()) && c.getParameterCount() == 0);
        }
        int open = 0;
        for (Field f : SealProbe.class.getDeclaredFields()) {
            open += Modifier.isPrivate(f.getModifiers()) ? 0 : 1;
            due.is("static is final: " + f, !Modifier.isStatic(f.getModifiers()) || Modifier.isFinal(f.getModifiers()));
        }
        due.is("fields that are not private", open, 7);
    }

    private static void classesInside() {
        Set<String> faces = new HashSet<>();
        for (String m : METHODS) {
            faces.add(m.substring(0, m.indexOf('(')));
        }
        Class<?>[] inside = SealProbe.class.getDeclaredClasses();
        due.is("at most twelve classes", inside.length < 12);
        for (Class<?> c : inside) {
            due.is(c + " is static", Modifier.isStatic(c.getModifiers()) && !Modifier.isPublic(c.getModifiers()));
            int fields = 0;
            for (Field f : c.getDeclaredFields()) {
                fields += Modifier.isStatic(f.getModifiers()) ? 0 : 1;
            }
            due.is(c + " has at most twenty fields: " + fields, fields <= 20);
            for (Method m : c.getDeclaredMethods()) {
                due.is(m + " has a name of its own", !faces.contains(m.getName()));
                due.is(m + " has at most seven parameters", m.getParameterCount() <= 7);
            }
        }
    }

    private static void text() throws IOException {
        List<String> lines = Files.readAllLines(Path.of("src/main/java/SealProbe.java"));
        Pattern ruledOut = Pattern.compile("\\b(throw|throws|try|catch|synchronized|assert|package|System\\.(?!arraycopy)"
                + "|Thread|Random|hashCode|toString)\\b|->|::|\\bnew [A-Z]\\w*\\(\\) \\{");
        int start = 0;
        for (int i = 0; i < lines.size(); i++) {
            String line = lines.get(i);
            boolean comment = line.strip().startsWith("*") || line.strip().startsWith("/") || line.contains("/**");
            due.is("line " + (i + 1) + ": " + line, comment || !ruledOut.matcher(line).find());
            due.is("line " + (i + 1) + " imports more", !line.startsWith("import") || line.equals("import java.util.Arrays;"));
            if (line.matches("( {4}| {8})[a-z].*\\) \\{")) {
                start = i;
            }
            if (line.matches(" {4}}| {8}}")) {
                due.is("method from line " + (start + 1) + " is short", i - start < 60 || line.length() == 5);
            }
        }
    }
}
