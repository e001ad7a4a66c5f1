import java.io.IOException;
import java.lang.reflect.Constructor;
import java.lang.reflect.Field;
import java.lang.reflect.Member;
import java.lang.reflect.Method;
import java.lang.reflect.Modifier;
import java.nio.file.Files;
import java.nio.file.Path;
import java.util.ArrayList;
import java.util.Arrays;
import java.util.List;
import java.util.Set;
import java.util.TreeSet;
import java.util.regex.Matcher;
import java.util.regex.Pattern;
import java.util.stream.Collectors;

/** The public face of the document, and those rules of LANGUAGE.md that reflection or the text can show. */
public final class LanguageTest {
    private static final Path SOURCE = Path.of("src/main/java/RoundKiss.java");
    private static final Path DOCUMENT = Path.of("../shared/DOC.md");

    public static void main(String[] args) throws IOException {
        String code = withoutCommentsAndTexts(Files.readString(SOURCE));
        face(Files.readString(DOCUMENT));
        members();
        words(code);
        methods(code);
        objectsAreMadeInConstructors(code);
        Due.end("LanguageTest");
    }

    private static String withoutCommentsAndTexts(String source) {
        return source.replaceAll("(?s)/\\*.*?\\*/", "").replaceAll("//[^\n]*", "")
                .replaceAll("\"(\\\\.|[^\"\\\\])*\"", "\"\"");
    }

    /** Rule 1: what the document's block of code shows is what there is. */
    private static void face(String document) {
        Set<String> due = new TreeSet<>();
        Matcher line = Pattern.compile("(?m)^    public (.*);$").matcher(document);
        while (line.find()) {
            due.add(line.group(1).replaceAll("(int|long|boolean) \\w+(?=[,)])", "$1"));
        }
        Set<String> there = new TreeSet<>();
        for (Field field : RoundKiss.class.getDeclaredFields()) {
            if (Modifier.isPublic(field.getModifiers())) {
                there.add("static final int " + field.getName() + " = " + valueOf(field));
            }
        }
        for (Method method : RoundKiss.class.getDeclaredMethods()) {
            if (Modifier.isPublic(method.getModifiers())) {
                there.add(method.getReturnType() + " " + method.getName() + parameters(method.getParameterTypes()));
            }
        }
        for (Constructor<?> constructor : RoundKiss.class.getDeclaredConstructors()) {
            there.add("RoundKiss" + parameters(constructor.getParameterTypes()));
        }
        Due.is("face: members in the document", due.size(), 8 + 1 + 37);
        Due.holds("face: due " + due + ", there " + there, due.equals(there));
    }

    private static String valueOf(Field field) {
        try {
            return String.valueOf(field.get(null));
        } catch (IllegalAccessException e) {
            return "hidden";
        }
    }

    private static String parameters(Class<?>[] types) {
        return Arrays.stream(types).map(Class::getName).collect(Collectors.joining(", ", "(", ")"));
    }

    /** Rules 1, 2, 5, 11: what isn't of the face is private; classes are static; static fields are final. */
    private static void members() {
        Due.holds("RoundKiss is public and final",
                Modifier.isPublic(RoundKiss.class.getModifiers()) && Modifier.isFinal(RoundKiss.class.getModifiers()));
        List<Member> all = new ArrayList<>(List.of(RoundKiss.class.getDeclaredMethods()));
        all.addAll(List.of(RoundKiss.class.getDeclaredFields()));
        for (Member member : all) {
            int modifiers = member.getModifiers();
            Due.holds(member + " is public or private", Modifier.isPublic(modifiers) || Modifier.isPrivate(modifiers));
        }
        Set<String> names = Arrays.stream(RoundKiss.class.getDeclaredMethods())
                .filter(m -> Modifier.isPublic(m.getModifiers())).map(Method::getName).collect(Collectors.toSet());
        List<Class<?>> classes = new ArrayList<>(List.of(RoundKiss.class.getDeclaredClasses()));
        Due.holds("twelve classes at the most", classes.size() < 12);
        for (Class<?> inside : classes) {
            Due.holds(inside + " is static", Modifier.isStatic(inside.getModifiers()));
            for (Method method : inside.getDeclaredMethods()) {
                Due.holds(method + " has a name of its own", !names.contains(method.getName()));
            }
        }
        classes.add(RoundKiss.class);
        for (Class<?> each : classes) {
            fields(each);
        }
        for (Method method : RoundKiss.class.getDeclaredMethods()) {
            Due.holds(method + " has a name of its own",
                    Modifier.isPublic(method.getModifiers()) || !names.contains(method.getName()));
        }
    }

    private static void fields(Class<?> each) {
        int fields = 0;
        for (Field field : each.getDeclaredFields()) {
            boolean isStatic = Modifier.isStatic(field.getModifiers());
            fields += isStatic ? 0 : 1;
            Due.holds(field + " is final if static", !isStatic || Modifier.isFinal(field.getModifiers()));
        }
        Due.holds(each + " has twenty fields at the most", fields <= 20);
    }

    /** Rules 3, 4, 6: words that may not stand in the text. */
    private static void words(String code) {
        String[] wrong = {"throw", "throws", "try", "catch", "finally", "synchronized", "assert", "double", "float",
            "protected", "package", "Exception", "System\\.out", "\\w+Exact", "Object", "hashCode", "toString",
            "equals", "volatile", "native", "var", "Thread", "Random", "nanoTime", "currentTimeMillis"};
        for (String word : wrong) {
            Due.holds("no " + word, !Pattern.compile("\\b" + word + "\\b").matcher(code).find());
        }
        Due.holds("no lambda", !code.contains("->"));
        Due.holds("no method reference", !code.contains("::"));
        Due.holds("no static block", !Pattern.compile("static\\s*\\{").matcher(code).find());
        Matcher imports = Pattern.compile("(?m)^import (.*);$").matcher(code);
        while (imports.find()) {
            Due.holds("import of " + imports.group(1), imports.group(1).equals("java.util.Arrays"));
        }
        Due.holds("signs 1 to 127", code.chars().allMatch(c -> c < 128));
    }

    /** Rule 11: at most seven parameters and some sixty lines. */
    private static void methods(String code) {
        Matcher method = Pattern.compile("(?m)^( +)(?:[\\w\\[\\]<>]+ )+(\\w+)\\(([^)]*)\\) \\{$").matcher(code);
        int found = 0;
        while (method.find()) {
            found++;
            int end = code.indexOf("\n" + method.group(1) + "}", method.end());
            long lines = code.substring(method.start(), end).lines().count();
            Due.holds(method.group(2) + " has " + lines + " lines", lines <= 60);
            Due.holds(method.group(2) + " has seven parameters at the most", method.group(3).split(",").length <= 7);
        }
        Due.holds("methods were found", found > 60);
    }

    /** All rows are made in constructors, so that no run of calls can fill its room. */
    private static void objectsAreMadeInConstructors(String code) {
        String rest = code;
        Matcher constructor = Pattern.compile("(?m)^( +)(?:(?:public|private) )?([A-Z]\\w+)\\(\\) \\{$").matcher(code);
        int found = 0;
        while (constructor.find()) {
            found++;
            int end = code.indexOf("\n" + constructor.group(1) + "}", constructor.end());
            rest = rest.replace(code.substring(constructor.start(), end), "");
        }
        Due.holds("constructors were found", found >= 5);
        Due.holds("no object is made elsewhere", !Pattern.compile("\\b(new|clone|copyOf|copyOfRange)\\b").matcher(rest).find());
    }
}
