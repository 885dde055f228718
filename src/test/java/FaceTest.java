import java.io.IOException;
import java.lang.reflect.Constructor;
import java.lang.reflect.Field;
import java.lang.reflect.Method;
import java.lang.reflect.Modifier;
import java.nio.file.Files;
import java.nio.file.Path;
import java.util.Set;
import java.util.TreeSet;
import java.util.regex.Matcher;
import java.util.regex.Pattern;

/** The document's face, and what of LANGUAGE.md can be seen from the source and the class. */
public final class FaceTest {
    private static final String[] FACE = {
        "int write(int)", "int wipe()", "int fault()", "int marsh()", "int about(int)", "int pan(int,int)", "int day()",
        "int sea(int)", "int let(int,int)", "int turn(int)", "int rake(int)", "int undo()", "int later(int,int,int)",
        "int crust(int)", "int ripe(int)", "int best(int,int)", "int gates(int,int)", "int judge(int,long)",
        "int share(int,boolean)", "int find(int,int,int)", "int forget()", "int salts(int)", "int rests(int,int,int)",
        "int clouds(int,int,int,int,boolean)", "long seed(long)", "int years(int)", "int keep(int)", "int again(int)"};
    private static final String[] RULED_OUT = {"throw", "throws", "try", "catch", "finally", "synchronized", "assert",
        "import", "package", "Exact", "random", "System", "Thread", "hashCode", "toString", "var", "->", "::"};

    public static void main(String[] args) throws IOException {
        methods();
        constants();
        constructors();
        words();
        methodLengths();
        Check.end();
    }

    private static void methods() {
        Set<String> due = new TreeSet<>(Set.of(FACE));
        Set<String> got = new TreeSet<>();
        Set<String> publicNames = new TreeSet<>();
        for (Method m : BrinePans.class.getDeclaredMethods()) {
            if (Modifier.isPublic(m.getModifiers())) {
                StringBuilder of = new StringBuilder(m.getReturnType() + " " + m.getName() + "(");
                for (Class<?> type : m.getParameterTypes()) {
                    of.append(of.charAt(of.length() - 1) == '(' ? "" : ",").append(type);
                }
                got.add(of.append(")").toString());
                publicNames.add(m.getName());
            }
        }
        Check.due("the public methods are those of the face: " + got, got.equals(due) ? 1 : 0, 1);
        Check.due("28 methods", due.size(), 28);
        for (Method m : BrinePans.class.getDeclaredMethods()) {
            if (!Modifier.isPublic(m.getModifiers())) {
                hidden("method " + m.getName(), m.getModifiers());
                Check.due("no name of a public one: " + m.getName(), publicNames.contains(m.getName()) ? 1 : 0, 0);
            }
        }
        for (Class<?> inside : BrinePans.class.getDeclaredClasses()) {
            for (Method m : inside.getDeclaredMethods()) {
                Check.due("no name of a public one: " + m, publicNames.contains(m.getName()) ? 1 : 0, 0);
            }
        }
    }

    private static void hidden(String what, int modifiers) {
        Check.due(what + " is private", Modifier.isPrivate(modifiers) ? 1 : 0, 1);
    }

    private static void constants() {
        Set<String> names = new TreeSet<>();
        for (Field f : BrinePans.class.getDeclaredFields()) {
            if (Modifier.isPublic(f.getModifiers())) {
                names.add(f.getName());
                Check.due("a constant: " + f.getName(), Modifier.isStatic(f.getModifiers())
                    && Modifier.isFinal(f.getModifiers()) && f.getType() == int.class ? 1 : 0, 1);
            } else {
                hidden("field " + f.getName(), f.getModifiers());
            }
        }
        Check.due("the constants", names.equals(Set.of("UNKNOWN", "BAD", "LATE", "FULL", "NONE")) ? 1 : 0, 1);
        Check.due("UNKNOWN", BrinePans.UNKNOWN, -1);
        Check.due("BAD", BrinePans.BAD, -2);
        Check.due("LATE", BrinePans.LATE, -3);
        Check.due("FULL", BrinePans.FULL, -4);
        Check.due("NONE", BrinePans.NONE, -9);
    }

    private static void constructors() {
        Constructor<?>[] all = BrinePans.class.getDeclaredConstructors();
        Check.due("one constructor", all.length, 1);
        Check.due("it takes nothing", all[0].getParameterCount(), 0);
        Check.due("it is public", Modifier.isPublic(all[0].getModifiers()) ? 1 : 0, 1);
        int modifiers = BrinePans.class.getModifiers();
        Check.due("public and final", Modifier.isPublic(modifiers) && Modifier.isFinal(modifiers) ? 1 : 0, 1);
        Check.due("no more than twelve classes", BrinePans.class.getDeclaredClasses().length <= 12 ? 1 : 0, 1);
        for (Class<?> inside : BrinePans.class.getDeclaredClasses()) {
            Check.due("static: " + inside, Modifier.isStatic(inside.getModifiers()) ? 1 : 0, 1);
        }
    }

    private static String source() throws IOException {
        return Files.readString(Path.of("src/main/java/BrinePans.java"))
            .replaceAll("(?s)/\\*.*?\\*/", "").replaceAll("//[^\n]*", "");
    }

    private static void words() throws IOException {
        String source = source();
        for (String word : RULED_OUT) {
            String sought = Character.isLetter(word.charAt(0)) ? "\\b" + word + "\\b" : Pattern.quote(word);
            Check.due("in the source: " + word, Pattern.compile(sought).matcher(source).find() ? 1 : 0, 0);
        }
        Check.due("signs up to 127 alone", source.chars().allMatch(c -> c < 128) ? 1 : 0, 1);
    }

    private static void methodLengths() throws IOException {
        Matcher method = Pattern.compile("(?m)^( {4}| {8})(public|private) [^;=\n]*\\) \\{\n(?s:.*?)^\\1\\}").matcher(source());
        int count = 0;
        while (method.find()) {
            count++;
            String first = method.group().lines().findFirst().orElse("");
            Check.due("sixty lines at most:" + first, method.group().lines().count() <= 60 ? 1 : 0, 1);
            Check.due("seven parameters at most:" + first, first.split(",").length <= 7 ? 1 : 0, 1);
        }
        Check.due("methods were seen", count > 28 ? 1 : 0, 1);
    }
}
