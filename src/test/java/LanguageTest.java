import java.io.IOException;
import java.lang.reflect.Field;
import java.lang.reflect.Method;
import java.lang.reflect.Modifier;
import java.nio.file.Files;
import java.nio.file.Path;
import java.util.ArrayList;
import java.util.List;
import java.util.Set;
import java.util.TreeSet;
import java.util.regex.Matcher;
import java.util.regex.Pattern;

/** The rules of ../shared/LANGUAGE.md that can be seen in the source and by reflection, and the face. */
final class LanguageTest {
    private static final String FACE = "feed(IIIII)I end(I)I land()I fault(I)I thing(I)I feast(I)I does(I)I can(I)I "
            + "broken()I says(I)I hours(I)I deed(I)Z shift(II)I leap()Z undo()Z redo()Z crime(II)I will(II)I "
            + "round(I)I clash(II)I plan(I)I most(I)I loophole(II)I amend(IIII)I all(IIII)I guilds(I)I "
            + "more(III)I lies(I)I look(III)I untell(I)Z later(I)I fit(I)I rests(II)I ask(III)I image(I)I "
            + "back(I)I about(I)I";
    private static final String[] FORBIDDEN = {"\\bthrow\\b", "\\bthrows\\b", "\\btry\\b", "\\bcatch\\b",
        "\\bfinally\\b", "\\bsynchronized\\b", "\\bassert\\b", "\\bpackage\\b", "->", "::", "\\bvar\\b",
        "\"\\s*\\+", "\\+\\s*\"", "\\bequals\\b", "\\bhashCode\\b", "\\btoString\\b", "Exact\\b", "\\brecord\\b",
        "\\bdouble\\b", "\\bfloat\\b", "\\bwhile\\s*\\(true\\)", "\\bObject\\b", "@"};
    private static final Set<String> LIBRARY = Set.of("System.arraycopy", "Math.max", "Math.min", "Arrays.fill");

    public static void main(String[] args) throws IOException {
        String source = Files.readString(Path.of("src/main/java/RestDays.java"));
        face();
        inside();
        words(source);
        lengths(source);
        Checks.same("NONE", RestDays.NONE, -1);
        Checks.same("GAP", RestDays.GAP, -1000000);
        Checks.finish();
    }

    private static String sign(Method m) {
        StringBuilder s = new StringBuilder(m.getName()).append('(');
        for (Class<?> c : m.getParameterTypes()) {
            s.append(c == int.class ? 'I' : '?');
        }
        return s.append(')').append(m.getReturnType() == int.class ? 'I' : m.getReturnType() == boolean.class ? 'Z' : '?')
                .toString();
    }

    private static void face() {
        Set<String> due = new TreeSet<>(List.of(FACE.split(" ")));
        Set<String> got = new TreeSet<>();
        Set<String> names = new TreeSet<>();
        for (Method m : RestDays.class.getDeclaredMethods()) {
            if (!Modifier.isPrivate(m.getModifiers())) {
                got.add(sign(m));
                names.add(m.getName());
                Checks.yes(m + " is public and of the object", Modifier.isPublic(m.getModifiers())
                        && !Modifier.isStatic(m.getModifiers()));
            }
        }
        Checks.yes("the face: " + got, got.equals(due));
        Checks.yes("final", Modifier.isFinal(RestDays.class.getModifiers()));
        Checks.same("constructors", RestDays.class.getDeclaredConstructors().length, 1);
        Checks.same("public constructors", RestDays.class.getConstructors().length, 1);
        Checks.same("public fields", RestDays.class.getFields().length, 2);
        for (Field f : RestDays.class.getDeclaredFields()) {
            Checks.yes(f + " is private or public", Modifier.isPrivate(f.getModifiers())
                    || Modifier.isPublic(f.getModifiers()));
        }
        for (Class<?> c : all()) {
            for (Method m : c.getDeclaredMethods()) {
                Checks.no(m + " bears a public name", c != RestDays.class && names.contains(m.getName())
                        || Modifier.isPrivate(m.getModifiers()) && names.contains(m.getName()));
                Checks.yes(m + " takes 7 at most", m.getParameterCount() <= 7);
            }
        }
    }

    private static List<Class<?>> all() {
        List<Class<?>> all = new ArrayList<>(List.of(RestDays.class.getDeclaredClasses()));
        all.add(RestDays.class);
        return all;
    }

    private static void inside() {
        Checks.yes("12 classes at most", all().size() <= 12);
        for (Class<?> c : all()) {
            int fields = 0;
            if (c != RestDays.class) {
                Checks.yes(c + " is static and private", Modifier.isStatic(c.getModifiers())
                        && Modifier.isPrivate(c.getModifiers()));
            }
            for (Field f : c.getDeclaredFields()) {
                boolean isStatic = Modifier.isStatic(f.getModifiers());
                fields += isStatic ? 0 : 1;
                Checks.yes(f + " is a constant", !isStatic || Modifier.isFinal(f.getModifiers())
                        && (f.getType() == int.class || f.getType() == String.class));
            }
            Checks.yes(c + " has 20 fields at most", fields <= 20);
        }
    }

    private static void words(String source) {
        String bare = source.replaceAll("(?s)/\\*.*?\\*/", " ").replaceAll("//[^\n]*", " ");
        for (String word : FORBIDDEN) {
            Checks.no("no " + word, Pattern.compile(word).matcher(bare).find());
        }
        for (int i = 0; i < source.length(); i++) {
            char c = source.charAt(i);
            if (c != '\n' && (c < 32 || c > 126)) {
                Checks.same("a sign at " + i, c, ' ');
            }
        }
        Matcher imports = Pattern.compile("\\bimport ([^;]*);").matcher(bare);
        while (imports.find()) {
            Checks.yes("import of " + imports.group(1), imports.group(1).equals("java.util.Arrays"));
        }
        Matcher calls = Pattern.compile("\\b(System|Math|Arrays|Integer|Long|String)\\.\\w+").matcher(bare);
        while (calls.find()) {
            Checks.yes("library: " + calls.group(), LIBRARY.contains(calls.group()));
        }
    }

    private static void lengths(String source) {
        String[] lines = source.split("\n");
        Pattern head = Pattern.compile("^( {4}| {8})(?! )(?!private static final class)[\\w\\[\\], .]*\\w\\(.*\\{$");
        for (int i = 0; i < lines.length; i++) {
            Matcher m = head.matcher(lines[i]);
            if (m.find() && !lines[i].contains("new ")) {
                int end = i;
                while (!lines[end].equals(m.group(1) + "}")) {
                    end++;
                }
                Checks.yes("60 lines at most: " + lines[i].trim(), end - i <= 60);
            }
        }
    }
}
