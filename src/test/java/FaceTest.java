import java.io.IOException;
import java.lang.reflect.Constructor;
import java.lang.reflect.Field;
import java.lang.reflect.Method;
import java.lang.reflect.Modifier;
import java.nio.file.Files;
import java.nio.file.Path;
import java.util.Set;
import java.util.TreeSet;
import java.util.regex.Matcher;
import java.util.regex.Pattern;

/** The public face of the document, and those rules of LANGUAGE.md that a look at the class and its text can tell. */
public final class FaceTest {
    private static final String[] METHODS = {"int mill(int,int,int,int,int)", "int ofMill(int,int)",
        "int turn(int,int,int)", "long row(int,int)", "long margin(int)", "int near(int)", "int line(int,int,int)",
        "int better(int,int)", "long off(int,int,int)", "int years(int,int,int)", "int far(int,int,int,int,int)",
        "int after(int,int,int,int,int,int)", "int reach(int)", "int two(int,int,int,int,int)",
        "long share(int,int,int)", "int best(int,int)", "int watch(int,int,int,int)", "int fits(int,int,int,int)",
        "int sheet(int,int,int)", "int lose(int)", "int put(int,int,int)", "long cell(int,int,int)",
        "int copy(int,int,int,int,int)", "int tell(int)", "int ring(int)", "int as(int,int)", "int trace()",
        "int fault()", "int many(int)"};

    public static void main(String[] args) throws IOException {
        Due due = new Due();
        constants(due);
        members(due);
        insideClasses(due);
        text(due, Files.readString(Path.of("src/main/java/BallMinder.java")));
        due.end();
    }

    private static void constants(Due due) {
        due.is("UNKNOWN", BallMinder.UNKNOWN, -1);
        due.is("OUTSIDE", BallMinder.OUTSIDE, -2);
        due.is("STATE", BallMinder.STATE, -3);
        due.is("FULL", BallMinder.FULL, -4);
        due.is("NONE", BallMinder.NONE, -9);
        due.is("LOST", BallMinder.LOST, Long.MIN_VALUE);
    }

    private static void members(Due due) {
        Class<?> face = BallMinder.class;
        due.holds("public and final", Modifier.isPublic(face.getModifiers()) && Modifier.isFinal(face.getModifiers()));
        Set<String> open = new TreeSet<>();
        Set<String> names = new TreeSet<>();
        for (Method m : face.getDeclaredMethods()) {
            if (!Modifier.isPrivate(m.getModifiers())) {
                due.holds(m + " is public", Modifier.isPublic(m.getModifiers()));
                open.add(told(m));
                names.add(m.getName());
            }
        }
        due.holds("the methods are " + open, open.equals(new TreeSet<>(Set.of(METHODS))));
        for (Method m : face.getDeclaredMethods()) {
            boolean hidden = Modifier.isPrivate(m.getModifiers());
            due.holds(m + " bears a name of its own", !hidden || !names.contains(m.getName()));
        }
        Set<String> fields = new TreeSet<>();
        for (Field f : face.getDeclaredFields()) {
            boolean fixed = Modifier.isFinal(f.getModifiers());
            due.holds(f + " is final, if it is static", !Modifier.isStatic(f.getModifiers()) || fixed);
            if (!Modifier.isPrivate(f.getModifiers())) {
                fields.add(f.getName());
            }
        }
        due.holds("the constants are " + fields,
            fields.equals(new TreeSet<>(Set.of("UNKNOWN", "OUTSIDE", "STATE", "FULL", "NONE", "LOST"))));
        Constructor<?>[] made = face.getDeclaredConstructors();
        due.holds("one constructor", made.length == 1 && Modifier.isPublic(made[0].getModifiers())
            && made[0].getParameterCount() == 0);
    }

    private static String told(Method m) {
        StringBuilder told = new StringBuilder(m.getReturnType() + " " + m.getName() + "(");
        for (Class<?> p : m.getParameterTypes()) {
            told.append(told.charAt(told.length() - 1) == '(' ? "" : ",").append(p);
        }
        return told.append(")").toString();
    }

    private static void insideClasses(Due due) {
        Class<?>[] inside = BallMinder.class.getDeclaredClasses();
        due.holds("at most twelve classes", inside.length < 12);
        for (Class<?> c : inside) {
            due.holds(c + " is static and not public", Modifier.isStatic(c.getModifiers())
                && !Modifier.isPublic(c.getModifiers()) && !Modifier.isProtected(c.getModifiers()));
            for (Method m : c.getDeclaredMethods()) {
                due.holds(m + " has at most seven parameters", m.getParameterCount() <= 7);
            }
        }
    }

    private static void text(Due due, String source) {
        String bare = source.replaceAll("(?s)/\\*.*?\\*/", "").replaceAll("//[^\n]*", "");
        Pattern banned = Pattern.compile("\\b(throw|throws|try|catch|synchronized|assert|hashCode|toString|System\\.out"
            + "|Random|Exact|package|protected|double|float)\\b|->|::|@");
        Matcher found = banned.matcher(bare);
        due.holds("no word that LANGUAGE.md leaves out", !found.find());
        Matcher imports = Pattern.compile("import ([^;]*);").matcher(bare);
        while (imports.find()) {
            due.holds("import of " + imports.group(1), imports.group(1).equals("java.util.Arrays"));
        }
        due.holds("plain signs alone", source.chars().allMatch(c -> c == '\n' || c >= 32 && c < 127));
        int lines = 0;
        for (String line : bare.split("\n")) {
            boolean opens = line.matches("( {4}| {8})\\S.*\\) \\{");
            lines = opens ? 0 : lines + 1;
            due.holds("a method of at most sixty lines", !line.matches("( {4}| {8})}") || lines <= 60);
        }
    }
}
