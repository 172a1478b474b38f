import java.lang.reflect.Field;
import java.lang.reflect.Method;
import java.lang.reflect.Modifier;
import java.nio.file.Files;
import java.nio.file.Path;
import java.util.ArrayList;
import java.util.Arrays;
import java.util.List;
import java.util.Set;
import java.util.TreeSet;
import java.util.regex.Matcher;
import java.util.regex.Pattern;

/** The rules of LANGUAGE.md that can be seen from the text of the class and from its compiled form. */
public final class LanguageTest {
    private static final String FACE = "feed republic law work book fault undo told sleeper clock near noise would rung "
        + "rings ahead wakes crown just each which ask swing lasts coup prophet dreams loudest dead votes stroke lacks "
        + "deaf idle lightest all bells until year span image restore status count";

    public static void main(String[] args) throws Exception {
        String source = Files.readString(Path.of("src/main/java/AlarmRule.java"));
        face();
        signatures(Files.readString(Path.of("../shared/DOC.md")));
        classes();
        words(stripped(source));
        library(stripped(source));
        methodsAreShort(source);
        Checks.end("LanguageTest");
    }

    private static void hold(String label, boolean holds) {
        Checks.due(label, 1, holds ? 1 : 0);
    }

    private static void face() {
        Set<String> open = new TreeSet<>();
        for (Method m : AlarmRule.class.getDeclaredMethods()) {
            boolean open1 = Modifier.isPublic(m.getModifiers());
            if (open1) open.add(m.getName());
            hold(m.getName() + " is public or private", open1 || Modifier.isPrivate(m.getModifiers()));
        }
        hold("the face", open.equals(new TreeSet<>(Arrays.asList(FACE.split(" ")))));
        for (Method m : AlarmRule.class.getDeclaredMethods()) {
            if (Modifier.isPrivate(m.getModifiers())) hold(m.getName() + " is no name of the face", !open.contains(m.getName()));
        }
        for (Field f : AlarmRule.class.getDeclaredFields()) {
            hold(f.getName() + " is hidden", Modifier.isPrivate(f.getModifiers()) || f.getName().equals("NONE"));
        }
        hold("final", Modifier.isFinal(AlarmRule.class.getModifiers()));
        hold("one constructor", AlarmRule.class.getDeclaredConstructors().length == 1);
    }

    /** Each method as the document's face writes it: its type, its numbers, what it throws. */
    private static void signatures(String document) {
        Matcher told = Pattern.compile("    public (int|long) (\\w+)\\(([^)]*)\\)( throws ([\\w, ]+))?;").matcher(document);
        int many = 0;
        while (told.find()) {
            many++;
            hold(told.group(2) + " is as the document's", has(told.group(1), told.group(2), told.group(3), told.group(5)));
        }
        Checks.due("methods of the face", FACE.split(" ").length, many);
        Checks.due("NONE", -1, AlarmRule.NONE);
    }

    private static boolean has(String type, String name, String numbers, String thrown) {
        int many = numbers.isEmpty() ? 0 : numbers.split(",").length;
        Class<?>[] types = new Class<?>[many];
        Arrays.fill(types, int.class);
        List<String> due = thrown == null ? List.of() : List.of(thrown.split(", "));
        try {
            Method m = AlarmRule.class.getMethod(name, types);
            List<String> got = Arrays.stream(m.getExceptionTypes()).map(Class::getSimpleName).toList();
            return m.getReturnType().getName().equals(type) && got.equals(due);
        } catch (NoSuchMethodException e) {
            return false;
        }
    }

    private static void classes() {
        List<Class<?>> all = new ArrayList<>(List.of(AlarmRule.class.getDeclaredClasses()));
        hold("classes", all.size() <= 11);
        all.add(AlarmRule.class);
        Set<String> face = Set.of(FACE.split(" "));
        for (Class<?> c : all) {
            int fields = 0;
            hold(c.getName() + " is static", c == AlarmRule.class || Modifier.isStatic(c.getModifiers()));
            for (Field f : c.getDeclaredFields()) {
                boolean shared = Modifier.isStatic(f.getModifiers());
                fields += shared ? 0 : 1;
                hold(f + " is final", !shared || Modifier.isFinal(f.getModifiers()));
            }
            hold(c.getName() + " has few fields", fields <= 20);
            for (Method m : c.getDeclaredMethods()) {
                hold(m + " has few parameters", m.getParameterCount() <= 7 || m.getName().equals("would"));
                hold(m + " is a name of its own", c == AlarmRule.class || !face.contains(m.getName()));
                hold(m + " is written out", !m.isSynthetic());
            }
        }
    }

    private static String stripped(String source) {
        return source.replaceAll("(?s)/\\*.*?\\*/", " ").replaceAll("//[^\n]*", " ").replaceAll("\"[^\"\n]*\"", "TEXT");
    }

    private static void words(String code) {
        for (String word : List.of("try", "catch", "finally", "synchronized", "assert", "package", "double", "float",
            "hashCode", "equals", "toString", "protected", "lambda")) {
            hold("no " + word, !Pattern.compile("\\b" + word + "\\b").matcher(code).find());
        }
        hold("no lambda", !code.contains("->"));
        hold("no method reference", !code.contains("::"));
        hold("no joined text", !code.contains("TEXT +") && !code.contains("+ TEXT"));
        hold("no static block", !Pattern.compile("static\\s*\\{").matcher(code).find());
        Matcher thrown = Pattern.compile("throw\\s+new\\s+(\\w+)").matcher(code);
        while (thrown.find()) {
            hold(thrown.group(1), Set.of("IllegalArgumentException", "NoSuchElementException").contains(thrown.group(1)));
        }
        hold("throw new alone", code.split("\\bthrow\\b").length == code.split("\\bthrow\\s+new\\b").length);
    }

    private static void library(String code) {
        Matcher imports = Pattern.compile("import\\s+([\\w.]+);").matcher(code);
        while (imports.find()) {
            hold(imports.group(1), Set.of("java.util.Arrays", "java.util.NoSuchElementException").contains(imports.group(1)));
        }
        Matcher calls = Pattern.compile("\\b(Math|Integer|Long|System|Arrays|String)\\.(\\w+)").matcher(code);
        Set<String> allowed = Set.of("Math.min", "Math.max", "Integer.bitCount", "Integer.numberOfTrailingZeros",
            "System.arraycopy", "Arrays.fill");
        while (calls.find()) hold(calls.group(), allowed.contains(calls.group()));
    }

    private static void methodsAreShort(String source) {
        String[] lines = source.split("\n");
        int from = -1;
        for (int i = 0; i < lines.length; i++) {
            hold("line " + (i + 1) + " is not too long", lines[i].length() <= 120);
            hold("signs of line " + (i + 1), lines[i].chars().allMatch(sign -> sign > 0 && sign < 128));
            boolean begins = lines[i].matches(" {4}( {4})?[^ /*}].*\\) (throws .*)?\\{") && !lines[i].contains(" class ");
            if (begins || lines[i].matches(" {12}throws .*\\{")) from = i;
            if (from >= 0 && lines[i].matches(" {4}( {4})?\\}")) {
                hold("method of line " + (from + 1) + " is short", i - from < 60);
                from = -1;
            }
        }
    }
}
