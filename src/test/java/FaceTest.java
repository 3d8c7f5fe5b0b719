import java.lang.reflect.Constructor;
import java.lang.reflect.Field;
import java.lang.reflect.Method;
import java.lang.reflect.Modifier;
import java.nio.file.Files;
import java.nio.file.Path;
import java.util.Arrays;
import java.util.HashSet;
import java.util.List;
import java.util.Set;
import java.util.TreeSet;
import java.util.regex.Matcher;
import java.util.regex.Pattern;

/** The public face of the document, and those rules of LANGUAGE.md that a program can look for. */
public final class FaceTest {
    private static final List<String> FACE = List.of(
            "int board(int,int,int,boolean)", "int drop(int)", "int back(int)", "int move(int)", "int at(int)",
            "int game(int)", "int won(int)", "int worth()", "int worthOf(int)", "int best()", "int as()",
            "int play()", "int positions(int)", "int wins(int)", "int share(int,int)", "int even()",
            "int threats(int)", "int threat(int,int)", "int waiting()", "int sheet(int,int,int)", "int lose(int)",
            "int put(int,int,int,int)", "int get(int,int,int)", "int copy(int,int,int,int,int)", "int take(int,int)",
            "int write(int)", "int count(int)", "long digest()");
    private static final List<String> LIBRARY = List.of("Arrays.fill", "Arrays.copyOf", "Arrays.copyOfRange",
            "System.arraycopy", "Integer.bitCount", "Math.min", "Math.max");
    private static int wrong = 0;

    public static void main(String[] args) throws Exception {
        face();
        constants();
        classesInside();
        source(Files.readString(Path.of("src/main/java/DropRows.java")));
        System.out.println(wrong == 0 ? "the face and the language are as told" : wrong + " faults");
        if (wrong != 0) {
            System.exit(1);
        }
    }

    private static void hold(boolean holds, String what) {
        if (!holds) {
            wrong++;
            System.out.println("does not hold: " + what);
        }
    }

    private static void face() {
        Class<?> c = DropRows.class;
        hold(Modifier.isPublic(c.getModifiers()) && Modifier.isFinal(c.getModifiers()), "public and final");
        Set<String> names = new HashSet<>();
        Set<String> found = new TreeSet<>();
        for (Method m : c.getDeclaredMethods()) {
            if (Modifier.isPublic(m.getModifiers())) {
                found.add(signature(m));
                names.add(m.getName());
            } else {
                hold(Modifier.isPrivate(m.getModifiers()), m + " is private");
            }
        }
        hold(found.equals(new TreeSet<>(FACE)), "the methods are those of the document: " + found);
        for (Method m : c.getDeclaredMethods()) {
            hold(Modifier.isPublic(m.getModifiers()) || !names.contains(m.getName()), m + " has a name of its own");
        }
        Constructor<?>[] made = c.getDeclaredConstructors();
        hold(made.length == 1 && Modifier.isPublic(made[0].getModifiers()) && made[0].getParameterCount() == 0,
                "one public constructor");
    }

    private static String signature(Method m) {
        StringBuilder text = new StringBuilder(m.getReturnType().getName()).append(' ').append(m.getName()).append('(');
        for (int i = 0; i < m.getParameterCount(); i++) {
            text.append(i == 0 ? "" : ",").append(m.getParameterTypes()[i].getName());
        }
        return text.append(')').toString();
    }

    private static void constants() throws Exception {
        List<String> names = List.of("NONE", "BAD", "NOT", "FULL");
        int[] values = {-1, -200, -201, -202};
        for (int i = 0; i < values.length; i++) {
            Field f = DropRows.class.getDeclaredField(names.get(i));
            int all = Modifier.PUBLIC | Modifier.STATIC | Modifier.FINAL;
            hold((f.getModifiers() & all) == all && f.getType() == int.class && f.getInt(null) == values[i],
                    names.get(i) + " is " + values[i]);
        }
        for (Field f : DropRows.class.getDeclaredFields()) {
            hold(names.contains(f.getName()) || Modifier.isPrivate(f.getModifiers()), f + " is private");
        }
    }

    private static void classesInside() {
        Class<?>[] inside = DropRows.class.getDeclaredClasses();
        hold(inside.length <= 11, "at most some twelve classes");
        for (Class<?> c : inside) {
            int how = c.getModifiers();
            hold(Modifier.isStatic(how) && !Modifier.isPublic(how) && !Modifier.isProtected(how), c + " is static, not public");
        }
        Class<?>[] all = Arrays.copyOf(inside, inside.length + 1);
        all[inside.length] = DropRows.class;
        for (Class<?> c : all) {
            long own = Arrays.stream(c.getDeclaredFields()).filter(f -> !Modifier.isStatic(f.getModifiers())).count();
            hold(own <= 20, c + " has at most twenty fields");
            for (Field f : c.getDeclaredFields()) {
                hold(!Modifier.isStatic(f.getModifiers()) || Modifier.isFinal(f.getModifiers()), f + " is final");
            }
            for (Method m : c.getDeclaredMethods()) {
                hold(m.getParameterCount() <= 7, m + " takes at most seven");
            }
        }
    }

    private static void source(String text) {
        String code = text.replaceAll("(?s)/\\*.*?\\*/", "").replaceAll("//[^\n]*", "");
        String[] banned = {"\\bthrow", "\\btry\\b", "\\bcatch\\b", "\\bsynchronized\\b", "\\bassert\\b", "->", "::",
            "\\bpackage\\b", "\\bnew \\w+\\([^)]*\\)\\s*\\{", "\\bequals\\b", "\\bhashCode\\b", "\\btoString\\b", "Exact\\b",
            "\\bstatic\\s*\\{", "\\bvar\\b", "\\bThread\\b", "nanoTime", "currentTimeMillis", "\\bRandom\\b"};
        for (String word : banned) {
            hold(!Pattern.compile(word).matcher(code).find(), "no " + word);
        }
        Matcher imports = Pattern.compile("import ([^;]*);").matcher(code);
        while (imports.find()) {
            hold(List.of("java.util.Arrays", "java.util.ArrayList", "java.util.List").contains(imports.group(1)),
                    "no import of " + imports.group(1));
        }
        Matcher calls = Pattern.compile("\\b(Arrays|System|Integer|Long|Math|String|Character)\\.\\w+")
                .matcher(code.replaceAll("import [^;]*;", ""));
        while (calls.find()) {
            hold(LIBRARY.contains(calls.group()), calls.group() + " stands in the library's list");
        }
        methodsAreShort(text);
    }

    private static void methodsAreShort(String text) {
        String[] lines = text.split("\n");
        for (int i = 0; i < lines.length; i++) {
            if (lines[i].matches(" {4}( {4})?[^ ].*\\) \\{") && !lines[i].contains(" class ")) {
                String end = lines[i].replaceAll("^( *).*", "$1") + "}";
                int last = i;
                while (last < lines.length && !lines[last].equals(end)) {
                    last++;
                }
                hold(last - i < 60, "short: " + lines[i].trim());
            }
        }
    }
}
