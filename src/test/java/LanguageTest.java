import java.io.IOException;
import java.lang.reflect.Constructor;
import java.lang.reflect.Field;
import java.lang.reflect.Method;
import java.lang.reflect.Modifier;
import java.nio.file.Files;
import java.nio.file.Path;
import java.util.ArrayList;
import java.util.List;
import java.util.Set;
import java.util.TreeSet;
import java.util.regex.Matcher;
import java.util.regex.Pattern;

/** What can be seen of the rules of LANGUAGE.md in the program's text and face. */
public final class LanguageTest {
    private static final Path PROGRAM = Path.of("src/main/java/LateRows.java");
    private static final Set<String> FACE = Set.of(
        "feed(int)int", "text(int)int", "empty(int)int", "part(int,int,int)int", "number(int,int)long",
        "entry(int,int,int)long", "twist(int,int,int)int", "taken(int,int,int)int", "print(int,int)int",
        "there(int,int)int", "is(int,int)int", "head(int,int)long", "need(int,int)int", "limit(int)int", "forget()int",
        "sum(int,int)long", "find(int,long,int)int", "differ(int,int,int)int", "rises(int)int", "film(int,int,int)int",
        "tells(int,int,int)int", "image()int", "back()int", "count(int)int", "sheet(int,int,int)int",
        "put(int,int,long)int", "item(int,int)long", "copy(int,int,int,int,int)int", "lay(int,int,int,int,int)int");
    private static final String[] RULED_OUT = {"\\bthrow\\b", "\\bthrows\\b", "\\btry\\b", "\\bcatch\\b", "\\bfinally\\b",
        "\\bsynchronized\\b", "\\bassert\\b", "->", "::", "\\bimport\\b", "\\bpackage\\b", "\\bprotected\\b", "\\bvar\\b",
        "Exact\\b", "\\bObject\\b", "\\bdouble\\b", "\\bfloat\\b", "\\bThread\\b", "nanoTime", "currentTimeMillis", "Random",
        "\\bequals\\b", "\\bhashCode\\b", "\\btoString\\b", "static \\{", "\\bnative\\b", "\\bvolatile\\b", "\\\\u"};
    private static int wrong = 0;

    public static void main(String[] args) throws IOException {
        String text = Files.readString(PROGRAM);
        face();
        insideClasses();
        words(text);
        methods(text);
        System.out.println(wrong == 0 ? "the program keeps to what can be seen of the rules" : wrong + " rules are broken");
        if (wrong != 0) System.exit(1);
    }

    private static void rule(boolean kept, String what) {
        if (kept) return;
        wrong++;
        System.out.println("not kept: " + what);
    }

    private static void face() {
        Class<?> c = LateRows.class;
        rule(Modifier.isFinal(c.getModifiers()) && Modifier.isPublic(c.getModifiers()), "the class is public and final");
        Set<String> found = new TreeSet<>();
        for (Method m : c.getDeclaredMethods()) {
            if (m.isSynthetic()) continue;
            StringBuilder s = new StringBuilder(m.getName()).append('(');
            for (Class<?> p : m.getParameterTypes()) s.append(s.charAt(s.length() - 1) == '(' ? "" : ",").append(p.getName());
            s.append(')').append(m.getReturnType().getName());
            if (!Modifier.isPrivate(m.getModifiers())) found.add(s.toString());
            if (!Modifier.isPublic(m.getModifiers())) notNamedAsPublic(m);
        }
        rule(found.equals(new TreeSet<>(FACE)), "the methods of the document's face and no others: " + found);
        Set<String> constants = new TreeSet<>();
        for (Field f : c.getDeclaredFields()) if (!Modifier.isPrivate(f.getModifiers())) constants.add(f.getName());
        rule(constants.equals(Set.of("NONE", "BAD", "STATE", "FULL", "DEAR", "NO")), "the constants of the face: " + constants);
        Constructor<?>[] made = c.getDeclaredConstructors();
        rule(made.length == 1 && Modifier.isPublic(made[0].getModifiers()) && made[0].getParameterCount() == 0, "one constructor");
        rule(c.getDeclaredClasses().length <= 11, "at most some twelve classes");
    }

    private static void notNamedAsPublic(Method m) {
        for (String f : FACE) rule(!f.startsWith(m.getName() + "("), "no other method is named " + m.getName());
    }

    private static void insideClasses() {
        for (Class<?> c : LateRows.class.getDeclaredClasses()) {
            rule(Modifier.isStatic(c.getModifiers()) && !Modifier.isPublic(c.getModifiers()), c + " is static and not public");
            for (Method m : c.getDeclaredMethods()) {
                if (!m.isSynthetic()) notNamedAsPublic(m);
                rule(m.getParameterCount() <= 7, m + " has at most seven parameters");
            }
            int own = 0;
            for (Field f : c.getDeclaredFields()) {
                if (!Modifier.isStatic(f.getModifiers())) own++;
                else rule(Modifier.isFinal(f.getModifiers()) && allowedConstant(f.getType()), f + " is a constant of an allowed type");
            }
            rule(own <= 20, c + " has some twenty fields at most");
        }
        for (Field f : LateRows.class.getDeclaredFields()) {
            if (!Modifier.isStatic(f.getModifiers())) continue;
            rule(Modifier.isFinal(f.getModifiers()) && allowedConstant(f.getType()), f + " is a constant of an allowed type");
        }
    }

    private static boolean allowedConstant(Class<?> type) {
        return type == int.class || type == long.class || type == boolean.class || type == char.class || type == String.class;
    }

    private static void words(String text) {
        String bare = text.replaceAll("(?s)/\\*.*?\\*/", " ").replaceAll("//[^\n]*", " ").replaceAll("\"[^\"\n]*\"", "\"\"");
        for (String w : RULED_OUT) {
            Matcher m = Pattern.compile(w).matcher(bare);
            rule(!m.find(), "no " + w + " in the program");
        }
        for (int i = 0; i < text.length(); i++) {
            if (text.charAt(i) > 126) {
                rule(false, "only plain signs, at " + i);
                break;
            }
        }
    }

    /** Methods stay under some sixty lines: from a line that opens one to the line that closes it. */
    private static void methods(String text) {
        List<String> lines = new ArrayList<>(text.lines().toList());
        Pattern opens = Pattern.compile("^( {4}| {8})[a-z].*\\) \\{$");
        for (int i = 0; i < lines.size(); i++) {
            Matcher m = opens.matcher(lines.get(i));
            if (!m.find()) continue;
            String close = m.group(1) + "}";
            int end = i;
            while (end < lines.size() && !lines.get(end).equals(close)) end++;
            rule(end - i < 60, "a short method at line " + (i + 1));
        }
    }
}
