import java.io.IOException;
import java.lang.reflect.Field;
import java.lang.reflect.Method;
import java.lang.reflect.Modifier;
import java.nio.file.Files;
import java.nio.file.Path;
import java.util.ArrayList;
import java.util.List;
import java.util.TreeSet;
import java.util.regex.Matcher;
import java.util.regex.Pattern;

/** What can be seen of ../shared/LANGUAGE.md from outside: the face, and words and lengths in the file. */
public final class LanguageTest {
    private static final Path FILE = Path.of("src/main/java/LikeRegistry.java");
    private static final Path DOCUMENT = Path.of("../shared/DOC.md");

    public static void main(String[] args) throws IOException {
        String source = Files.readString(FILE);
        face(Files.readString(DOCUMENT));
        names();
        fields();
        words(source.replaceAll("//[^\n]*", "").replaceAll("\"[^\"\n]*\"", "\"\""));
        lengths(source);
        Due.end("LanguageTest");
    }

    private static List<Class<?>> classes() {
        List<Class<?>> all = new ArrayList<>();
        all.add(LikeRegistry.class);
        for (Class<?> c : LikeRegistry.class.getDeclaredClasses()) {
            all.add(c);
            Due.is(c + " is static and not public", (c.getModifiers() & (Modifier.STATIC | Modifier.PUBLIC))
                == Modifier.STATIC, true);
            Due.is(c + " has classes inside", c.getDeclaredClasses().length, 0);
        }
        return all;
    }

    /** Every line of the document's face is there, and no other member that is not private. */
    private static void face(String document) {
        TreeSet<String> due = new TreeSet<>();
        Matcher m = Pattern.compile("\n    public (\\w+) (\\w+)\\((.*?)\\);").matcher(document);
        while (m.find()) {
            due.add(m.group(1) + " " + m.group(2) + "(" + m.group(3).replaceAll(" \\w+(,|$)", "$1") + ")");
        }
        TreeSet<String> there = new TreeSet<>();
        for (Method method : LikeRegistry.class.getDeclaredMethods()) {
            if (!Modifier.isPrivate(method.getModifiers()) && !method.isSynthetic()) {
                StringBuilder parameters = new StringBuilder();
                for (Class<?> p : method.getParameterTypes()) {
                    parameters.append(parameters.length() > 0 ? ", " : "").append(p.getName());
                }
                there.add(method.getReturnType().getName() + " " + method.getName() + "(" + parameters + ")");
            }
        }
        Due.is("methods of the face", due.size(), 64);
        Due.is("the face " + there + " is " + due, there.equals(due), true);
        Due.is("constructors", LikeRegistry.class.getDeclaredConstructors().length, 1);
    }

    private static void names() {
        TreeSet<String> shown = new TreeSet<>();
        for (Method method : LikeRegistry.class.getMethods()) {
            shown.add(method.getName());
        }
        for (Class<?> c : classes()) {
            for (Method method : c.getDeclaredMethods()) {
                boolean face = c == LikeRegistry.class && Modifier.isPublic(method.getModifiers());
                Due.is(c.getSimpleName() + "." + method.getName() + " is a name of the face",
                    !face && shown.contains(method.getName()), false);
                Due.is(method + " takes seven parameters at most", method.getParameterCount() <= 7, true);
            }
        }
        Due.is("twelve classes at most", classes().size() <= 12, true);
    }

    private static void fields() {
        for (Class<?> c : classes()) {
            int many = 0;
            for (Field f : c.getDeclaredFields()) {
                int how = f.getModifiers();
                many += Modifier.isStatic(how) ? 0 : 1;
                Due.is(f + ": a static field is final", Modifier.isStatic(how) && !Modifier.isFinal(how), false);
                Due.is(f + ": a field of the face is private",
                    c == LikeRegistry.class && !Modifier.isPrivate(how) && !f.getName().equals("NONE"), false);
            }
            Due.is(c + " has some twenty fields at most: " + many, many <= 21, true);
        }
    }

    private static void words(String code) {
        for (String word : new String[] {"throw", "throws", "try", "catch", "synchronized", "assert", "package",
            "volatile", "native", "Object", "Exception", "hashCode", "toString", "random", "Thread", "->", "::", "@"}) {
            String pattern = Character.isLetter(word.charAt(0)) ? "\\b" + word + "\\b" : Pattern.quote(word);
            Due.is("the file has " + word, Pattern.compile(pattern).matcher(code).find(), false);
        }
        TreeSet<String> called = new TreeSet<>();
        Matcher m = Pattern.compile("\\b(System|Arrays|Math|Integer|Long|String)\\.(\\w+)").matcher(code);
        while (m.find()) {
            called.add(m.group(1) + "." + m.group(2));
        }
        called.removeAll(List.of("System.arraycopy", "Arrays.fill", "Math.max", "Math.min", "Integer.bitCount",
            "Integer.numberOfTrailingZeros"));
        Due.is("of the library also " + called, called.size(), 0);
        Matcher imports = Pattern.compile("import ([\\w.]+);").matcher(code);
        while (imports.find()) {
            Due.is("import " + imports.group(1), imports.group(1).equals("java.util.Arrays"), true);
        }
    }

    private static void lengths(String source) {
        String[] lines = source.split("\n");
        for (int k = 0; k < lines.length; k++) {
            Due.is("line " + (k + 1) + " is longer than 130", lines[k].length() > 130, false);
            Matcher m = Pattern.compile("^(\\s+)[\\w\\[\\] ]+\\([^;]*\\) \\{$").matcher(lines[k]);
            if (m.find() && !lines[k].matches("\\s+(if|for|while|switch|else|\\}).*")) {
                int end = k;
                while (end < lines.length && !lines[end].equals(m.group(1) + "}")) {
                    end++;
                }
                Due.is("the method at line " + (k + 1) + " has sixty lines at most", end - k < 60, true);
            }
        }
    }
}
