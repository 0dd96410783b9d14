import java.io.IOException;
import java.lang.reflect.Constructor;
import java.lang.reflect.Field;
import java.lang.reflect.Method;
import java.lang.reflect.Modifier;
import java.nio.file.Files;
import java.nio.file.Path;
import java.util.Arrays;
import java.util.HashSet;
import java.util.List;
import java.util.Set;
import java.util.TreeSet;
import java.util.regex.Matcher;
import java.util.regex.Pattern;

/** The public face of the document, and those rules of LANGUAGE.md that can be looked up. */
final class FormTest {
    private static final Set<String> FACE = new TreeSet<>(List.of(
            "int feed(int,int,int,int,int)", "int back(int)", "int read()", "int place()", "int volunteer(int)",
            "int step(int,int)", "boolean learn(int,int)", "int has(int,int,int)", "boolean bar(int,int)",
            "boolean care(int)", "int due(int)", "boolean clock(int)", "boolean holiday(int)", "int offer(int,int,int)",
            "int shifts()", "int there(int,int)", "int lacks(int)", "int call(int,int,int,int,int)", "int go()",
            "int told(int,int)", "int talked(int,int)", "int note(int,int)", "int see(int,int,int)",
            "int foretold(int,int)", "int count(int)"));
    private static final String FORBIDDEN = "\\b(throw|throws|try|catch|synchronized|assert|import|package|native|"
            + "volatile|Object|Random|Thread)\\b|->|::|\\bSystem\\.(?!arraycopy)|Exact\\(";

    // A method of the class, or of one inside it; a constructor has no type ahead of its name.
    private static final Pattern METHOD = Pattern.compile(
            "(?ms)^( {4}| {8})(?:(?:public|private|static) )*([\\w\\[\\]]+ )?(\\w+)\\([^()]*\\) \\{$.*?^\\1\\}$");

    public static void main(String[] args) throws IOException {
        face();
        constructor();
        fields();
        nested();
        source();
        methods();
        Check.end();
    }

    private static void face() {
        Set<String> shown = new TreeSet<>();
        Set<String> names = publicNames();
        for (Method m : FriendLine.class.getDeclaredMethods()) {
            if (Modifier.isPrivate(m.getModifiers())) {
                Check.no("private " + m.getName() + " bears a public name", names.contains(m.getName()));
            } else {
                Check.yes(m + " is public", Modifier.isPublic(m.getModifiers()));
                String types = String.join(",", Arrays.stream(m.getParameterTypes()).map(Class::getName).toList());
                shown.add(m.getReturnType() + " " + m.getName() + "(" + types + ")");
            }
        }
        Check.yes("the face is " + shown, shown.equals(FACE));
        Check.yes("public and final", Modifier.isPublic(FriendLine.class.getModifiers())
                && Modifier.isFinal(FriendLine.class.getModifiers()));
    }

    private static Set<String> publicNames() {
        Set<String> names = new HashSet<>();
        FACE.forEach(m -> names.add(m.substring(m.indexOf(' ') + 1, m.indexOf('('))));
        return names;
    }

    private static void constructor() {
        Constructor<?>[] all = FriendLine.class.getDeclaredConstructors();
        Check.same("constructors", all.length, 1);
        Check.yes("public", Modifier.isPublic(all[0].getModifiers()));
        Check.same("parameters", all[0].getParameterCount(), 0);
    }

    private static void fields() {
        for (Field f : FriendLine.class.getDeclaredFields()) {
            boolean isNone = f.getName().equals("NONE");
            Check.yes(f + " is hidden", isNone == !Modifier.isPrivate(f.getModifiers()));
        }
    }

    private static void nested() {
        Class<?>[] all = FriendLine.class.getDeclaredClasses();
        Check.yes("twelve classes at most", all.length <= 11);
        for (Class<?> c : all) {
            Check.yes(c + " is static", Modifier.isStatic(c.getModifiers()));
            int fields = 0;
            for (Field f : c.getDeclaredFields()) {
                boolean isStatic = Modifier.isStatic(f.getModifiers());
                Check.yes(f + " is final if it is static", !isStatic || Modifier.isFinal(f.getModifiers()));
                fields += isStatic ? 0 : 1;
            }
            Check.yes(c + " has twenty fields at most", fields <= 20);
            for (Method m : c.getDeclaredMethods()) {
                Check.yes(m + " takes seven parameters at most", m.getParameterCount() <= 7);
                boolean isPrivate = Modifier.isPrivate(m.getModifiers());
                Check.no(m + " bears a public name", isPrivate && publicNames().contains(m.getName()));
            }
        }
    }

    private static void source() throws IOException {
        String text = Files.readString(Path.of("src/main/java/FriendLine.java"));
        String code = text.replaceAll("(?s)/\\*.*?\\*/", "").replaceAll("//[^\n]*", "");
        Matcher m = Pattern.compile(FORBIDDEN).matcher(code);
        while (m.find()) {
            Check.no("'" + m.group() + "' in the source", true);
        }
    }
    private static void methods() throws IOException {
        Matcher m = METHOD.matcher(Files.readString(Path.of("src/main/java/FriendLine.java")));
        int found = 0;
        while (m.find()) {
            found++;
            boolean isConstructor = m.group(2) == null;
            Check.yes(m.group(3) + " has sixty lines at most", m.group().lines().count() <= 60);
            Check.yes(m.group(3) + " makes no object", isConstructor || !m.group().contains(" new "));
        }
        int declared = FriendLine.class.getDeclaredMethods().length + 1;
        for (Class<?> c : FriendLine.class.getDeclaredClasses()) {
            declared += c.getDeclaredMethods().length + c.getDeclaredConstructors().length;
        }
        Check.same("methods found in the source", found, declared);
    }
}
