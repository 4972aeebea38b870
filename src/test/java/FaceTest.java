import java.lang.reflect.Constructor;
import java.lang.reflect.Field;
import java.lang.reflect.Method;
import java.lang.reflect.Modifier;
import java.nio.charset.StandardCharsets;
import java.nio.file.Files;
import java.nio.file.Path;
import java.util.Arrays;
import java.util.TreeSet;

/** The face is the document's, and SendHall.java keeps to what of LANGUAGE.md can be seen from outside. */
public final class FaceTest {
    private static final String[] FACE = {
        "boolean differs()", "boolean left(int)!NoSuchElementException", "boolean world(int,int,int,int)",
        "int chose(int)!NoSuchElementException", "int could(int,int)!NoSuchElementException",
        "int count(int)!NoSuchElementException", "int cut()", "int ending(int,int)!NoSuchElementException",
        "int endings(int)!NoSuchElementException", "int fault()", "int feed(int,int,int,int,int)",
        "int least(int)!IllegalArgumentException", "int needs()", "int of(int,int)!NoSuchElementException",
        "int play(int,long)!IllegalArgumentException", "int reached()", "int ring(int)!NoSuchElementException",
        "int step(int)!NoSuchElementException", "int text(int)!IllegalArgumentException"};

    private static final String[] WORDS = {"->", "::", "synchronized", "assert ", "finally", "native ", "volatile",
        "System.out", "System.err", "currentTime", "nanoTime", "Random", "Thread", "Exact(", "catch", "protected ",
        "instanceof", "static {", "package ", "ArrayIndexOutOfBounds", "NullPointer", "float ", "double "};

    private static String told(Method m) {
        StringBuilder b = new StringBuilder(m.getReturnType().getSimpleName()).append(' ').append(m.getName()).append('(');
        for (Class<?> p : m.getParameterTypes()) {
            b.append(b.charAt(b.length() - 1) == '(' ? "" : ",").append(p.getSimpleName());
        }
        b.append(')');
        for (Class<?> e : m.getExceptionTypes()) {
            b.append('!').append(e.getSimpleName());
        }
        return b.toString();
    }

    private static void face() throws Exception {
        TreeSet<String> found = new TreeSet<>();
        TreeSet<String> names = new TreeSet<>();
        for (Method m : SendHall.class.getDeclaredMethods()) {
            if (!Modifier.isPrivate(m.getModifiers())) {
                found.add((Modifier.isPublic(m.getModifiers()) && !Modifier.isStatic(m.getModifiers()) ? "" : "?") + told(m));
                names.add(m.getName());
            }
        }
        Due.is("the face " + found, 1, found.equals(new TreeSet<>(Arrays.asList(FACE))) ? 1 : 0);
        Due.is("the class is final", Modifier.PUBLIC | Modifier.FINAL, SendHall.class.getModifiers());
        Due.is("constructors", 1, SendHall.class.getDeclaredConstructors().length);
        Constructor<?> made = SendHall.class.getDeclaredConstructor();
        Due.is("the constructor", Modifier.PUBLIC, made.getModifiers());
        for (Field f : SendHall.class.getDeclaredFields()) {
            int how = Modifier.PUBLIC | Modifier.STATIC | Modifier.FINAL;
            boolean right = f.getName().equals("NONE") ? f.getModifiers() == how : Modifier.isPrivate(f.getModifiers());
            Due.holds("field " + f.getName(), true, right);
        }
        inside(SendHall.class, names);
        for (Class<?> c : SendHall.class.getDeclaredClasses()) {
            inside(c, names);
        }
    }

    private static void inside(Class<?> c, TreeSet<String> names) {
        boolean face = c == SendHall.class;
        Due.holds("class " + c.getName(), true, face || Modifier.isStatic(c.getModifiers()) && !Modifier.isPublic(c.getModifiers()));
        int fields = 0;
        for (Field f : c.getDeclaredFields()) {
            boolean constant = Modifier.isStatic(f.getModifiers());
            Due.holds("a static field is final: " + f, true, !constant || Modifier.isFinal(f.getModifiers()));
            fields += constant ? 0 : 1;
        }
        Due.holds("fields of " + c.getName() + ": " + fields, true, fields <= 20);
        for (Method m : c.getDeclaredMethods()) {
            boolean own = face && !Modifier.isPrivate(m.getModifiers());
            Due.holds("no name of the face: " + m, true, own || !names.contains(m.getName()));
            Due.holds("at most seven parameters: " + m, true, m.getParameterCount() <= 7);
        }
    }

    private static void source() throws Exception {
        byte[] bytes = Files.readAllBytes(Path.of("src/main/java/SendHall.java"));
        for (byte b : bytes) {
            if (b < 32 && b != 10) {
                Due.is("a sign of SendHall.java", 32, b);
            }
        }
        int since = 0;
        int at = 0;
        for (String line : new String(bytes, StandardCharsets.US_ASCII).split("\n")) {
            at++;
            boolean comment = line.trim().startsWith("//") || line.trim().startsWith("/**");
            for (String word : WORDS) {
                Due.holds("line " + at + " has " + word, false, !comment && line.contains(word));
            }
            if (line.startsWith("import ")) {
                Due.holds(line, true, line.equals("import java.util.Arrays;") || line.equals("import java.util.NoSuchElementException;"));
            }
            boolean opens = line.matches(" {4}( {4})?(public|private) [^=;]*\\) .*\\{");
            since = opens ? at : since;
            if (line.equals("    }") || line.equals("        }")) {
                Due.holds("the method from line " + since + " on is short", true, at - since <= 60 || line.equals("    }"));
            }
        }
    }

    public static void main(String[] args) throws Exception {
        face();
        source();
        Due.end("FaceTest");
    }
}
