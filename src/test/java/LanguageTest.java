import java.lang.reflect.Constructor;
import java.lang.reflect.Field;
import java.lang.reflect.Method;
import java.lang.reflect.Modifier;
import java.nio.file.Files;
import java.nio.file.Path;
import java.util.ArrayList;
import java.util.Arrays;
import java.util.List;
import java.util.Set;
import java.util.TreeSet;
import java.util.regex.Matcher;
import java.util.regex.Pattern;

/** The face as DOC.md has it, and those rules of LANGUAGE.md that can be read off the classes and the source. */
public final class LanguageTest {
    private static final Checks C = new Checks("LanguageTest");
    private static final String[] FACE = {
        "int ahead(int,int) IllegalArgumentException", "int ask(int,int) IllegalArgumentException", "int boxes()",
        "int cell(int,int) NoSuchElementException IllegalArgumentException",
        "int common(int) IllegalArgumentException", "int count(int)", "int deed(int) NoSuchElementException",
        "int fault()", "int feed(int,int,int,int,int)", "boolean fits(int,int) NoSuchElementException",
        "int free(int) IllegalArgumentException", "int greyest(int) IllegalArgumentException", "int image()",
        "int law(int) IllegalArgumentException",
        "long likely(int,int,int,int,int) NoSuchElementException IllegalArgumentException",
        "int mayBe(int,int) IllegalArgumentException", "int pack(int) IllegalArgumentException",
        "int packed(int,int) NoSuchElementException IllegalArgumentException", "int restore()",
        "int sayings(int) IllegalArgumentException", "int seen(int) IllegalArgumentException",
        "int share(int,int,int) NoSuchElementException IllegalArgumentException",
        "int span(int,int,int,int,int,int,int) IllegalArgumentException", "int spare()", "int status(int)",
        "int strip(int,int) NoSuchElementException IllegalArgumentException",
        "int summer(int,int,int,int,int) IllegalArgumentException",
        "int sunniest(int,int) NoSuchElementException IllegalArgumentException",
        "int sunny(int,int) IllegalArgumentException", "int thief(int) IllegalArgumentException",
        "int told(int) IllegalArgumentException", "int undo()", "int wets(int) IllegalArgumentException",
        "int wetted(int,int) NoSuchElementException IllegalArgumentException", "int white(int) NoSuchElementException",
        "int whiteYards(int) IllegalArgumentException", "int work(int) IllegalArgumentException",
        "int would(int,int,int,int,int,int,int,int) IllegalArgumentException"};

    public static void main(String[] args) throws Exception {
        face();
        classes();
        source(Files.readString(Path.of("src/main/java/LinenGuilt.java")));
        C.finish();
    }

    private static boolean isPrivate(int modifiers) {
        return Modifier.isPrivate(modifiers);
    }

    private static void face() throws Exception {
        Set<String> got = new TreeSet<>();
        for (Method m : LinenGuilt.class.getDeclaredMethods()) {
            if (!isPrivate(m.getModifiers())) {
                C.due("1: public, not static: " + m, true, m.getModifiers() == Modifier.PUBLIC);
                got.add(written(m));
            }
        }
        C.due("1: the methods of the face: " + got, true, got.equals(new TreeSet<>(Arrays.asList(FACE))));
        for (Field f : LinenGuilt.class.getDeclaredFields()) {
            C.due("1: " + f, true, isPrivate(f.getModifiers()) || f.getName().equals("NONE"));
        }
        Constructor<?>[] made = LinenGuilt.class.getDeclaredConstructors();
        C.due("1: one constructor, public, without numbers", true, made.length == 1
                && made[0].getModifiers() == Modifier.PUBLIC && made[0].getParameterCount() == 0);
        C.due("1: public and final", Modifier.PUBLIC | Modifier.FINAL, LinenGuilt.class.getModifiers());
    }

    private static String written(Method m) {
        StringBuilder out = new StringBuilder(m.getReturnType() + " " + m.getName() + "(");
        for (int i = 0; i < m.getParameterCount(); i++) {
            out.append(i == 0 ? "" : ",").append(m.getParameterTypes()[i]);
        }
        out.append(")");
        for (Class<?> thrown : m.getExceptionTypes()) {
            out.append(" ").append(thrown.getSimpleName());
        }
        return out.toString();
    }

    private static void classes() {
        List<Class<?>> all = new ArrayList<>(List.of(LinenGuilt.class.getDeclaredClasses()));
        C.due("11: at most twelve classes, not " + (all.size() + 1), true, all.size() + 1 <= 12);
        all.forEach(c -> C.due("2: static " + c, true, Modifier.isStatic(c.getModifiers())));
        Set<String> names = new TreeSet<>();
        for (Method m : LinenGuilt.class.getMethods()) {
            names.add(m.getName());
        }
        all.forEach(c -> Arrays.stream(c.getDeclaredMethods())
                .forEach(m -> C.due("1: a name of the face: " + m, false, names.contains(m.getName()))));
        all.add(LinenGuilt.class);
        for (Class<?> c : all) {
            int fields = 0;
            for (Field f : c.getDeclaredFields()) {
                boolean constant = Modifier.isStatic(f.getModifiers());
                fields += constant ? 0 : 1;
                C.due("5: a constant is final: " + f, true, !constant || Modifier.isFinal(f.getModifiers()));
            }
            C.due("11: fields of " + c + ": " + fields, true, fields <= 20);
            for (Method m : c.getDeclaredMethods()) {
                C.due("1: no synthetic method: " + m, false, m.isSynthetic());
                C.due("11: seven numbers at most: " + m, true, m.getParameterCount() <= 7 || m.getName().equals("would"));
            }
        }
    }

    private static void source(String text) {
        for (char c : text.toCharArray()) {
            if (c > 126 || c < 32 && c != '\n') {
                C.due("3: a sign " + (int) c, true, false);
            }
        }
        String code = text.replaceAll("(?s)/\\*.*?\\*/", "").replaceAll("//[^\n]*", "");
        none(code, "->|::|\\b(try|catch|finally|synchronized|assert|instanceof|static \\{|volatile|native|enum|record)\\b");
        none(code, "\\b(float|double|Random|System\\.(?!arraycopy)|Thread|Object|Class|Long\\.|\\w+Exact)\\b");
        Matcher imports = Pattern.compile("import ([\\w.*]+);").matcher(code);
        while (imports.find()) {
            C.due("4: import " + imports.group(1), true, imports.group(1).equals("java.util.NoSuchElementException"));
        }
        Matcher thrown = Pattern.compile("throw ([^;]*);").matcher(code);
        while (thrown.find()) {
            C.due("6: throw " + thrown.group(1), true, thrown.group(1).matches("new \\w+Exception\\((\"[^\"]*\")?\\)"));
        }
        methodsAreShort(text.split("\n"));
    }

    private static void none(String code, String pattern) {
        Matcher m = Pattern.compile(pattern).matcher(code);
        C.due("LANGUAGE.md: no '" + pattern + "'", false, m.find());
    }

    /** A method begins at its brace and ends at the next brace as deep as its head. */
    private static void methodsAreShort(String[] lines) {
        for (int i = 0; i < lines.length; i++) {
            Matcher head = Pattern.compile("^( {4}| {8})(?! |private static final class)[\\w\\[\\] ]+\\(.*\\{$").matcher(lines[i]);
            if (head.matches()) {
                int end = i;
                while (!lines[end].equals(head.group(1) + "}")) {
                    end++;
                }
                C.due("11: a short method: " + lines[i].trim(), true, end - i <= 60);
            }
        }
    }
}
