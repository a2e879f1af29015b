import java.io.IOException;
import java.lang.reflect.Constructor;
import java.lang.reflect.Field;
import java.lang.reflect.Method;
import java.lang.reflect.Modifier;
import java.nio.file.Files;
import java.nio.file.Path;
import java.util.Set;
import java.util.TreeSet;
import java.util.regex.Matcher;
import java.util.regex.Pattern;

/** The rules of LANGUAGE.md that can be seen in the class or its text without a compiler of our own. */
public final class RulesTest {
    private static final String[] FACE = {
        "type(int)", "picture()", "dot(int,int,int)", "count(int)", "paint(int,int,int)", "shift(int,int)", "take()",
        "like(int)", "noise(int)", "undo()", "seed(int)", "cost(int,int)", "of(int,int)", "rebuilt(int,int)",
        "wrong(int,int,int)", "image()", "restore()", "found(int,int,int,int)", "film(int,int,int,int)",
        "sheet(int,int,int)", "drop(int)", "item(int,int,int,long)", "copy(int,int,int,int,int)"};
    private static final String[] CONSTANTS = {"BAD", "NOT", "FULL", "NONE", "NULL", "CAST", "INDEX", "SIZE"};
    private static int wrong = 0;

    public static void main(String[] args) throws IOException {
        face();
        members();
        String text = Files.readString(Path.of("src/main/java/MovedBlocks.java"));
        text(text.replaceAll("(?s)/\\*.*?\\*/", "").replaceAll("//[^\n]*", ""));
        lengths(text);
        System.out.println(wrong == 0 ? "all rules are kept" : wrong + " rules are not kept");
        if (wrong != 0) {
            System.exit(1);
        }
    }

    private static void ask(boolean holds, String rule) {
        if (!holds) {
            wrong++;
            System.out.println(rule);
        }
    }

    private static String told(Method method) {
        StringBuilder told = new StringBuilder(method.getName()).append('(');
        for (Class<?> part : method.getParameterTypes()) {
            told.append(told.charAt(told.length() - 1) == '(' ? "" : ",").append(part.getName());
        }
        return told.append(')').toString();
    }

    private static void face() {
        Class<?> face = MovedBlocks.class;
        ask(Modifier.isPublic(face.getModifiers()) && Modifier.isFinal(face.getModifiers()), "1: public and final");
        Set<String> methods = new TreeSet<>();
        for (Method method : face.getDeclaredMethods()) {
            if (!Modifier.isPrivate(method.getModifiers())) {
                methods.add(told(method));
                ask(Modifier.isPublic(method.getModifiers()) && method.getReturnType() == int.class
                    && !Modifier.isStatic(method.getModifiers()), "1: " + told(method));
            }
        }
        ask(methods.equals(new TreeSet<>(Set.of(FACE))), "1: the methods are " + methods);
        Set<String> constants = new TreeSet<>();
        for (Field field : face.getDeclaredFields()) {
            if (!Modifier.isPrivate(field.getModifiers())) {
                constants.add(field.getName());
                ask(field.getModifiers() == (Modifier.PUBLIC | Modifier.STATIC | Modifier.FINAL)
                    && field.getType() == int.class, "1: " + field.getName());
            }
        }
        ask(constants.equals(new TreeSet<>(Set.of(CONSTANTS))), "1: the constants are " + constants);
        Constructor<?>[] made = face.getDeclaredConstructors();
        ask(made.length == 1 && made[0].getParameterCount() == 0 && Modifier.isPublic(made[0].getModifiers()),
            "1: one constructor");
    }

    private static void members() {
        Set<String> names = new TreeSet<>();
        for (String call : FACE) {
            names.add(call.substring(0, call.indexOf('(')));
        }
        Class<?>[] inside = MovedBlocks.class.getDeclaredClasses();
        ask(inside.length < 12, "11: classes");
        for (int i = -1; i < inside.length; i++) {
            Class<?> at = i < 0 ? MovedBlocks.class : inside[i];
            ask(i < 0 || Modifier.isStatic(at.getModifiers()), "2: " + at);
            int fields = 0;
            for (Field field : at.getDeclaredFields()) {
                boolean isStatic = Modifier.isStatic(field.getModifiers());
                fields += isStatic ? 0 : 1;
                ask(!isStatic || Modifier.isFinal(field.getModifiers()), "5: " + field);
            }
            ask(fields <= 20, "11: fields of " + at);
            for (Method method : at.getDeclaredMethods()) {
                ask(method.getParameterCount() <= 7, "11: " + method);
                boolean isFace = i < 0 && Modifier.isPublic(method.getModifiers());
                ask(isFace || !names.contains(method.getName()), "1: a private method's name: " + method);
            }
        }
    }

    private static void text(String code) {
        String[] words = {"package", "import", "throw", "throws", "try", "catch", "finally", "synchronized", "assert",
            "yield", "hashCode", "toString", "double", "float", "protected", "native", "volatile", "Exact", "var"};
        for (String word : words) {
            ask(!Pattern.compile("\\b" + word + "\\b").matcher(code).find(), "the word " + word);
        }
        ask(!code.contains("->") && !code.contains("::"), "2: a lambda or a method reference");
        ask(code.chars().allMatch(c -> c == '\n' || c >= 32 && c < 127), "4: signs");
        Matcher library = Pattern.compile("\\b(System|Math|Integer|Long|Arrays)\\.(\\w+)").matcher(code);
        Set<String> known = Set.of("System.arraycopy", "Math.abs", "Math.min", "Math.max");
        while (library.find()) {
            ask(known.contains(library.group()), "4: " + library.group());
        }
    }

    private static void lengths(String text) {
        String end = "";
        int length = 0;
        for (String line : text.split("\n")) {
            if (line.matches(" +(public|private) [^=]*\\) \\{")) {
                end = line.substring(0, line.indexOf('p')) + "}";
                length = 0;
            }
            length++;
            ask(!line.equals(end) || length <= 60, "11: a method of " + length + " lines");
            ask(line.length() <= 120, "a line of " + line.length());
        }
    }
}
