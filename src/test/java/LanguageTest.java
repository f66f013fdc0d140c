import java.io.IOException;
import java.lang.reflect.Field;
import java.lang.reflect.Member;
import java.lang.reflect.Method;
import java.lang.reflect.Modifier;
import java.nio.file.Files;
import java.nio.file.Path;
import java.util.ArrayList;
import java.util.Arrays;
import java.util.List;
import java.util.Set;
import java.util.TreeSet;

/** The face is the document's and no more, and the file keeps to what can be told of LANGUAGE.md by a look. */
public final class LanguageTest {
    private static final Check CHECK = new Check();
    private static final String[] FACE = {
        "int clock(int,int,int)", "int of(int,int)", "int news(int,int)", "int set(int,int)", "int balk(int,boolean)",
        "int row(int,int,int)", "int feed(int)", "int bench()", "int told(int)", "int tell(int)", "int pass(int)",
        "int on(int,int,int)", "int soonest(int)", "int most(int,int)", "int next()", "int see(int,int,int)",
        "int since(int,int)", "int can(int,int)", "long odds(int,int)", "long mean(int)", "int month(int)",
        "int ends(int)", "int book(int,int)", "int looked()", "int judge(int,int)", "int image()", "int undo()",
        "int act(int,int,int)", "int trace(int)", "int taken(int,int)", "int count(int)", "int tape(int,int,int)",
        "int item(int,int,long)", "long read(int,int)", "int shift(int,int,int,int,int)",
    };
    private static final String[] CONSTANTS = {"NONE", "BAD", "STATE", "FULL", "NO"};
    private static final String[] BANNED = {
        "throw", "throws", "try", "catch", "finally", "synchronized", "assert", "instanceof", "var", "yield", "Object",
        "protected", "volatile", "native", "transient", "System.out", "Exception", "Error", "Exact", "goto", "->", "::", "@",
    };

    private static void must(String what, boolean is) {
        CHECK.due(what, is ? 1 : 0, 1);
    }

    private static String signature(Method method) {
        StringBuilder s = new StringBuilder(method.getReturnType().getName() + " " + method.getName() + "(");
        for (Class<?> type : method.getParameterTypes()) {
            s.append(s.charAt(s.length() - 1) == '(' ? "" : ",").append(type.getName());
        }
        return s + ")";
    }

    private static boolean isOpen(Member member) {
        return !Modifier.isPrivate(member.getModifiers()) && !member.isSynthetic();
    }

    private static void face() {
        Set<String> methods = new TreeSet<>();
        for (Method method : ClocksTold.class.getDeclaredMethods()) {
            if (isOpen(method)) {
                must(method + " is public", Modifier.isPublic(method.getModifiers()));
                methods.add(signature(method));
            }
        }
        must("the methods are " + methods, methods.equals(new TreeSet<>(Arrays.asList(FACE))));
        Set<String> fields = new TreeSet<>();
        for (Field field : ClocksTold.class.getDeclaredFields()) {
            if (isOpen(field)) {
                must(field + " is a constant", Modifier.isPublic(field.getModifiers()) && Modifier.isFinal(field.getModifiers()));
                fields.add(field.getName());
            }
        }
        must("the constants are " + fields, fields.equals(new TreeSet<>(Arrays.asList(CONSTANTS))));
        must("the class is final", Modifier.isFinal(ClocksTold.class.getModifiers()));
        must("one constructor", ClocksTold.class.getDeclaredConstructors().length == 1);
    }

    private static void members(Class<?> one) {
        int fields = 0;
        for (Field field : one.getDeclaredFields()) {
            boolean isStatic = Modifier.isStatic(field.getModifiers());
            must(field + " is final if static", !isStatic || Modifier.isFinal(field.getModifiers()));
            fields += isStatic ? 0 : 1;
        }
        must(one + " has some twenty fields at most", fields <= 20);
        for (Method method : one.getDeclaredMethods()) {
            must(method + " takes seven at most", method.getParameterCount() <= 7);
            if (!Modifier.isPublic(method.getModifiers())) {
                for (String called : FACE) {
                    must(method + " bears no public name", !called.contains(" " + method.getName() + "("));
                }
            }
        }
    }

    private static void classes() {
        members(ClocksTold.class);
        Class<?>[] inside = ClocksTold.class.getDeclaredClasses();
        must("some twelve classes at most", inside.length <= 11);
        for (Class<?> one : inside) {
            must(one + " is static", Modifier.isStatic(one.getModifiers()));
            must(one + " is private", Modifier.isPrivate(one.getModifiers()));
            members(one);
        }
    }

    private static String bare(String source) {
        return source.replaceAll("(?s)/\\*.*?\\*/", " ").replaceAll("//[^\n]*", " ")
            .replaceAll("\"[^\"\n]*\"", "\"\"").replaceAll("'[^'\n]*'", "' '");
    }

    private static boolean has(String code, String word) {
        if (!Character.isLetter(word.charAt(0))) {
            return code.contains(word);
        }
        String whole = word.equals("Exact") || word.equals("Error") || word.equals("Exception") ? "" : "\\b";
        return java.util.regex.Pattern.compile(whole + java.util.regex.Pattern.quote(word) + "\\b").matcher(code).find();
    }

    private static void words(String source) {
        String code = bare(source);
        for (String word : BANNED) {
            must("the file is without " + word, !has(code, word));
        }
        List<String> imports = new ArrayList<>();
        for (String line : code.split("\n")) {
            if (line.startsWith("import ")) {
                imports.add(line.trim());
            }
        }
        must("imports " + imports, imports.equals(List.of("import java.util.Arrays;")));
        must("no package", !code.contains("package "));
        must("no static block", !code.matches("(?s).*static\\s*\\{.*"));
        for (int i = 0; i < source.length(); i++) {
            must("the sign at " + i, source.charAt(i) < 128);
        }
    }

    private static void methodsAreShort(String source) {
        int from = -1;
        String[] lines = source.split("\n");
        for (int i = 0; i < lines.length; i++) {
            if (lines[i].matches(" {4,8}(public|private) .*\\) \\{")) {
                from = i;
            } else if (from >= 0 && lines[i].matches(" {4,8}\\}")) {
                must("the method at line " + (from + 1) + " has some sixty lines at most", i - from <= 60);
                from = -1;
            }
        }
    }

    public static void main(String[] args) throws IOException {
        String source = Files.readString(Path.of("src/main/java/ClocksTold.java"));
        face();
        classes();
        words(source);
        methodsAreShort(source);
        CHECK.end("LanguageTest");
    }
}
