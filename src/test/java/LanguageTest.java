import java.lang.reflect.Constructor;
import java.lang.reflect.Field;
import java.lang.reflect.Method;
import java.lang.reflect.Modifier;
import java.nio.file.Files;
import java.nio.file.Path;
import java.util.Arrays;
import java.util.HashSet;
import java.util.List;
import java.util.Set;
import java.util.TreeSet;
import java.util.regex.Matcher;
import java.util.regex.Pattern;

/** What can be seen by a look of the rules of LANGUAGE.md, and the document's face. */
public final class LanguageTest {
    private static final Path SOURCE = Path.of("src/main/java/NobodyBreathes.java");
    private static final String[] FACE = {
        "int set(int,int,int)", "int singer(int,int,int)", "int voice(int,int)", "int told(int,int,int,int)",
        "int feed(int,long)", "int text()", "int force(int)", "int sing(int,int)", "int of(int,int,int)", "int wrong(int)",
        "long bad(int)", "int breaths(int,int)", "int fewest(int,int,int)", "int round(int,int,int)",
        "long lent(int,int,int)", "long lost(int,int,int)", "int who(int)", "int image()", "int back()", "int count(int)",
        "int sheet(int,int,int)", "int cell(int,int,int)", "int copy(int,int,int,int,int)", "int singers(int,int,int,int)",
        "int taken(int,int)"};

    public static void main(String[] args) throws Exception {
        face();
        members();
        words();
        sizes();
        Due.end();
    }

    private static String told(Method m) {
        StringBuilder b = new StringBuilder(m.getReturnType() + " " + m.getName() + "(");
        for (Class<?> p : m.getParameterTypes()) {
            b.append(b.charAt(b.length() - 1) == '(' ? "" : ",").append(p);
        }
        return b.append(")").toString();
    }

    private static void face() {
        Class<?> c = NobodyBreathes.class;
        Due.holds("the class is public and final", Modifier.isPublic(c.getModifiers()) && Modifier.isFinal(c.getModifiers()));
        Set<String> seen = new TreeSet<>();
        for (Method m : c.getDeclaredMethods()) {
            if (!Modifier.isPrivate(m.getModifiers())) {
                Due.holds(m + " is public", Modifier.isPublic(m.getModifiers()) && !Modifier.isStatic(m.getModifiers()));
                seen.add(told(m));
            }
        }
        Due.holds("the face is the document's: " + seen, seen.equals(new TreeSet<>(Arrays.asList(FACE))));
        Constructor<?>[] made = c.getDeclaredConstructors();
        Due.holds("one constructor", made.length == 1 && made[0].getParameterCount() == 0 && Modifier.isPublic(made[0].getModifiers()));
        Set<String> constants = new TreeSet<>();
        for (Field f : c.getDeclaredFields()) {
            if (!Modifier.isPrivate(f.getModifiers())) constants.add(f.getName());
        }
        Due.holds("five constants", constants.equals(new TreeSet<>(List.of("NONE", "BAD", "STATE", "FULL", "NO"))));
    }

    private static void members() {
        Set<String> open = new HashSet<>();
        for (Method m : NobodyBreathes.class.getMethods()) {
            open.add(m.getName());
        }
        Set<Class<?>> all = new HashSet<>(Arrays.asList(NobodyBreathes.class.getDeclaredClasses()));
        all.add(NobodyBreathes.class);
        Due.holds("some twelve classes", all.size() <= 12);
        for (Class<?> c : all) {
            Due.holds(c + " is static", c == NobodyBreathes.class || Modifier.isStatic(c.getModifiers()));
            int fields = 0;
            for (Field f : c.getDeclaredFields()) {
                if (Modifier.isStatic(f.getModifiers())) {
                    Due.holds(f + " is final", Modifier.isFinal(f.getModifiers()));
                } else {
                    fields++;
                }
            }
            Due.holds(c + " has few fields", fields <= 20);
            for (Method m : c.getDeclaredMethods()) {
                Due.holds(m + " takes seven at most", m.getParameterCount() <= 7);
                if (Modifier.isPrivate(m.getModifiers())) {
                    Due.holds(m + " bears no public one's name", !open.contains(m.getName()));
                }
            }
        }
    }

    /** The source without comments and without what stands in quotes. */
    private static String bare() throws Exception {
        String s = Files.readString(SOURCE);
        s = s.replaceAll("(?s)/\\*.*?\\*/", "").replaceAll("//[^\n]*", "");
        return s.replaceAll("\"[^\"\n]*\"", "\"\"").replaceAll("'[^'\n]'", "' '");
    }

    private static void words() throws Exception {
        String s = bare();
        String[] none = {"\\bthrow\\b", "\\btry\\b", "\\bcatch\\b", "\\bsynchronized\\b", "\\bassert\\b", "->", "::", "\\bpackage\\b",
            "\\bprotected\\b", "Exact\\b", "\\bhashCode\\b", "\\btoString\\b", "\\bSystem\\.(?!arraycopy)", "\\bRandom\\b", "\\bThread\\b",
            "\\bwhile\\s*\\(\\s*true", "for\\s*\\(\\s*;\\s*;", "\\bObject\\b", "\\bstatic\\s*\\{", "\\bvar\\b"};
        for (String word : none) {
            Due.holds("no " + word, !Pattern.compile(word).matcher(s).find());
        }
        Matcher imports = Pattern.compile("import ([^;]+);").matcher(s);
        while (imports.find()) {
            Due.holds("import " + imports.group(1), Set.of("java.util.Arrays", "java.util.ArrayList", "java.util.List").contains(imports.group(1)));
        }
        String whole = Files.readString(SOURCE);
        Due.holds("plain signs alone", whole.chars().allMatch(c -> c == 10 || (c >= 32 && c < 127)));
    }

    /** A method begins with a line that ends in ") {" at the depth of members and ends with the brace of that depth. */
    private static void sizes() throws Exception {
        String[] lines = bare().split("\n");
        int begun = -1;
        String indent = "";
        Pattern head = Pattern.compile("^(    |        )(?! )(?!if|for|while|switch).*\\) \\{$");
        for (int i = 0; i < lines.length; i++) {
            Matcher m = head.matcher(lines[i]);
            if (begun < 0 && m.matches() && !lines[i].contains(" class ")) {
                begun = i;
                indent = m.group(1);
            } else if (begun >= 0 && lines[i].equals(indent + "}")) {
                Due.holds(lines[begun].trim() + " is short", i - begun < 60);
                begun = -1;
            }
        }
    }
}
