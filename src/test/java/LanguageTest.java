import java.lang.reflect.Constructor;
import java.lang.reflect.Field;
import java.lang.reflect.Method;
import java.lang.reflect.Modifier;
import java.nio.file.Files;
import java.nio.file.Path;
import java.util.ArrayList;
import java.util.List;
import java.util.TreeSet;
import java.util.regex.Matcher;
import java.util.regex.Pattern;

/** What of LANGUAGE.md can be seen from outside: the face, the words that are not used, the sizes. */
public final class LanguageTest {
    private static final String[] FACE = {
        "share(int,int)", "field(int,int,int,int,boolean)", "gang(int,int,int)", "lorry(int)", "send(int,int)", "turn()", "works(int,int)",
        "table(int,int)", "warmth(int,int)", "price(int,int)", "cover(int,boolean)", "frost(boolean)", "hours(int)", "owed(int)", "next()",
        "best()", "order(int)", "fieldOf(int,int)", "lorryOf(int,int)", "load(int,int)", "coins(int)", "count(int)"};
    private static final String[] NEVER = {"\\bthrow\\b", "\\bthrows\\b", "\\btry\\b", "\\bcatch\\b", "\\bsynchronized\\b", "\\bassert\\b",
        "->", "::", "Exact\\b", "\\bequals\\b", "\\bhashCode\\b", "\\btoString\\b", "\\bThread\\b", "\\bRandom\\b", "\\bpackage\\b",
        "\\bSystem\\b", "\\bprotected\\b", "\\bdouble\\b", "\\bfloat\\b", "\\bObject\\b"};

    public static void main(String[] args) throws Exception {
        face();
        classes();
        words();
        library();
        lengths();
        Due.end();
    }

    private static void face() {
        Due.holds("the class is public and final", BeetHouse.class.getModifiers() == (Modifier.PUBLIC | Modifier.FINAL));
        TreeSet<String> wanted = new TreeSet<>(List.of(FACE));
        TreeSet<String> found = new TreeSet<>();
        TreeSet<String> names = new TreeSet<>();
        for (Method m : BeetHouse.class.getDeclaredMethods()) {
            if (!Modifier.isPrivate(m.getModifiers())) {
                found.add(told(m));
                names.add(m.getName());
                Due.holds(told(m) + " is public, not static and answers an int",
                    m.getModifiers() == Modifier.PUBLIC && m.getReturnType() == int.class);
            }
        }
        Due.holds("the face is the document's: " + found, found.equals(wanted));
        List<Class<?>> all = new ArrayList<>(List.of(BeetHouse.class.getDeclaredClasses()));
        all.add(BeetHouse.class);
        for (Class<?> c : all) {
            for (Method m : c.getDeclaredMethods()) {
                Due.holds(told(m) + " of " + c.getName() + " bears no public name",
                    !Modifier.isPrivate(m.getModifiers()) || !names.contains(m.getName()));
                Due.holds(told(m) + " has at most seven parameters", m.getParameterCount() <= 7);
            }
        }
        Constructor<?>[] made = BeetHouse.class.getDeclaredConstructors();
        Due.holds("one public constructor without parameters",
            made.length == 1 && made[0].getModifiers() == Modifier.PUBLIC && made[0].getParameterCount() == 0);
    }

    private static String told(Method m) {
        StringBuilder s = new StringBuilder(m.getName()).append('(');
        for (Class<?> p : m.getParameterTypes()) {
            s.append(s.charAt(s.length() - 1) == '(' ? "" : ",").append(p.getName());
        }
        return s.append(')').toString();
    }

    private static void classes() {
        Class<?>[] inside = BeetHouse.class.getDeclaredClasses();
        Due.holds("at most twelve classes", inside.length < 12);
        for (Class<?> c : inside) {
            int mods = c.getModifiers();
            Due.holds(c + " has no class inside it, and is in no method", c.getDeclaredClasses().length == 0 && c.getEnclosingMethod() == null);
            Due.holds(c + " is static and not public", Modifier.isStatic(mods) && !Modifier.isPublic(mods) && !Modifier.isProtected(mods));
            fields(c);
        }
        fields(BeetHouse.class);
    }

    private static void fields(Class<?> c) {
        int own = 0;
        for (Field f : c.getDeclaredFields()) {
            boolean constant = Modifier.isStatic(f.getModifiers());
            own += constant ? 0 : 1;
            Due.holds(f + " is private", Modifier.isPrivate(f.getModifiers()));
            Due.holds(f + " is final if it is static, and a number", !constant || (Modifier.isFinal(f.getModifiers()) && f.getType() == int.class));
        }
        Due.holds(c + " has at most twenty fields", own <= 20);
    }

    private static String source() throws Exception {
        String path = System.getProperty("beethouse.source", "src/main/java/BeetHouse.java");
        return Files.readString(Path.of(path));
    }

    private static void words() throws Exception {
        String bare = source().replaceAll("(?s)/\\*.*?\\*/", " ").replaceAll("//[^\n]*", " ");
        for (String word : NEVER) {
            Due.holds("the source is without " + word, !Pattern.compile(word).matcher(bare).find());
        }
        Matcher imports = Pattern.compile("import\\s+([\\w.*]+)").matcher(bare);
        while (imports.find()) {
            Due.holds("import " + imports.group(1), imports.group(1).equals("java.util.ArrayList"));
        }
        for (char c : source().toCharArray()) {
            Due.holds("sign " + (int) c, c == '\n' || (c >= 32 && c < 127));
        }
    }

    /** What is called behind a dot, and what is made: the file's own, or what rule 4 lists. */
    private static void library() throws Exception {
        String bare = source().replaceAll("(?s)/\\*.*?\\*/", " ").replaceAll("//[^\n]*", " ");
        TreeSet<String> known = new TreeSet<>(List.of("size", "get", "add", "remove", "isEmpty", "min"));
        TreeSet<String> makes = new TreeSet<>(List.of("ArrayList", "int"));
        List<Class<?>> all = new ArrayList<>(List.of(BeetHouse.class.getDeclaredClasses()));
        all.add(BeetHouse.class);
        for (Class<?> c : all) {
            makes.add(c.getSimpleName());
            for (Method m : c.getDeclaredMethods()) {
                known.add(m.getName());
            }
        }
        Matcher calls = Pattern.compile("\\.\\s*(\\w+)\\s*\\(").matcher(bare);
        while (calls.find()) {
            Due.holds("call of " + calls.group(1), known.contains(calls.group(1)));
        }
        Matcher made = Pattern.compile("\\bnew\\s+(\\w+)").matcher(bare);
        while (made.find()) {
            Due.holds("new " + made.group(1), makes.contains(made.group(1)));
        }
        Due.holds("each loop is a for with a counter", !Pattern.compile("\\b(while|do)\\b|for \\([^;()]*:").matcher(bare).find());
    }

    /** A method begins with a line that ends in ") {" at the depth of a class's members. */
    private static void lengths() throws Exception {
        String[] lines = source().split("\n");
        for (int i = 0; i < lines.length; i++) {
            Matcher head = Pattern.compile("^( {4}| {8})(public|private) .*\\) \\{$").matcher(lines[i]);
            if (head.find()) {
                int end = i;
                while (end < lines.length && !lines[end].equals(head.group(1) + "}")) {
                    end++;
                }
                Due.holds("at most sixty lines: " + lines[i].trim(), end - i < 60);
            }
        }
    }
}
