import java.lang.reflect.Constructor;
import java.lang.reflect.Executable;
import java.lang.reflect.Field;
import java.lang.reflect.Method;
import java.lang.reflect.Modifier;
import java.io.IOException;
import java.nio.file.Files;
import java.nio.file.Path;
import java.util.List;
import java.util.Set;
import java.util.TreeSet;
import java.util.regex.Matcher;
import java.util.regex.Pattern;

/** The public face is the document's, and what of LANGUAGE.md can be looked up in the file holds. */
public final class FaceTest {
    private static final Set<String> FACE = new TreeSet<>(Set.of(
        "int func(int,int)", "int word(int,int)", "int check()", "int depth(int,int)", "void clear()",
        "int turn(int)", "int op(int,int,int)", "int size(int)", "int value(int,int,int)",
        "int slots(int)", "int places(int)", "boolean cell(int,int)", "boolean again()",
        "int runStack(int)", "int runRegisters(int)", "int look(int,int)", "int peek(int,int)",
        "int count(int)"));
    private static final int MOST_LINES = 60;
    private static final int MOST_PARAMETERS = 7;
    private static final int MOST_FIELDS = 20;
    private static final int MOST_CLASSES = 12;

    private static int wrong = 0;

    public static void main(String[] args) throws IOException {
        face();
        classesInside();
        text(Files.readAllLines(Path.of("src/main/java/RegisterMill.java")));
        System.out.println("FaceTest: " + wrong + " wrong");
        if (wrong != 0) {
            System.exit(1);
        }
    }

    private static void require(String what, boolean held) {
        if (!held) {
            wrong++;
            System.out.println("not so: " + what);
        }
    }

    private static String parameters(Executable e) {
        StringBuilder all = new StringBuilder("(");
        for (Class<?> type : e.getParameterTypes()) {
            all.append(all.length() > 1 ? "," : "").append(type.getSimpleName());
        }
        return all.append(")").toString();
    }

    private static void face() {
        require("the class is public and final", RegisterMill.class.getModifiers()
            == (Modifier.PUBLIC | Modifier.FINAL));
        Set<String> found = new TreeSet<>();
        for (Method m : RegisterMill.class.getDeclaredMethods()) {
            boolean open = Modifier.isPublic(m.getModifiers());
            if (open) {
                found.add(m.getReturnType().getSimpleName() + " " + m.getName() + parameters(m));
            }
            require(m + " is public or private", open || Modifier.isPrivate(m.getModifiers()) || m.isSynthetic());
        }
        require("the public methods are the document's: " + found, found.equals(FACE));
        for (Field f : RegisterMill.class.getDeclaredFields()) {
            boolean none = f.getName().equals("NONE") && Modifier.isPublic(f.getModifiers());
            require(f + " is private", none || Modifier.isPrivate(f.getModifiers()));
        }
        Constructor<?>[] constructors = RegisterMill.class.getDeclaredConstructors();
        require("one public constructor", constructors.length == 1
            && Modifier.isPublic(constructors[0].getModifiers()) && constructors[0].getParameterCount() == 0);
        require("NONE is -1", RegisterMill.NONE == -1);
    }

    private static void classesInside() {
        Set<String> names = new TreeSet<>();
        for (String one : FACE) {
            names.add(one.substring(one.indexOf(' ') + 1, one.indexOf('(')));
        }
        Class<?>[] inside = RegisterMill.class.getDeclaredClasses();
        require("few classes", inside.length + 1 <= MOST_CLASSES);
        for (Class<?> c : inside) {
            require(c + " is static and not public", Modifier.isStatic(c.getModifiers())
                && !Modifier.isPublic(c.getModifiers()) && !Modifier.isProtected(c.getModifiers()));
            int fields = 0;
            for (Field f : c.getDeclaredFields()) {
                fields += Modifier.isStatic(f.getModifiers()) ? 0 : 1;
                require(f + " is final if static", !Modifier.isStatic(f.getModifiers())
                    || Modifier.isFinal(f.getModifiers()));
            }
            require("few fields in " + c, fields <= MOST_FIELDS);
            for (Method m : c.getDeclaredMethods()) {
                require(m + " has no public one's name", !names.contains(m.getName()));
                require(m + " has few parameters", m.getParameterCount() <= MOST_PARAMETERS);
            }
        }
    }

    private static void text(List<String> lines) {
        Set<String> imports = Set.of("import java.util.Arrays;", "import java.util.NoSuchElementException;");
        Pattern banned = Pattern.compile("->|::|@|\\b(package|synchronized|finally|assert|try|catch|Exact"
            + "|System\\.(out|nanoTime|currentTimeMillis)|Random|Thread|float|double)\\b");
        Pattern head = Pattern.compile("^( {4}| {8})[a-zA-Z].*\\) (throws \\w+ )?\\{$");
        int begun = -1;
        String indent = "";
        for (int i = 0; i < lines.size(); i++) {
            String line = lines.get(i);
            require("import: " + line, !line.startsWith("import") || imports.contains(line));
            boolean comment = line.trim().startsWith("//") || line.trim().startsWith("*") || line.trim().startsWith("/*");
            require("line " + (i + 1) + ": " + line, comment || !banned.matcher(line).find());
            Matcher m = head.matcher(line);
            if (m.matches()) {
                begun = i;
                indent = m.group(1);
            } else if (begun >= 0 && line.equals(indent + "}")) {
                require("short: " + lines.get(begun), i - begun + 1 <= MOST_LINES);
                begun = -1;
            }
        }
    }
}
