import java.io.IOException;
import java.lang.reflect.Constructor;
import java.lang.reflect.Field;
import java.lang.reflect.Method;
import java.lang.reflect.Modifier;
import java.nio.file.Files;
import java.nio.file.Path;
import java.util.Arrays;
import java.util.List;
import java.util.Set;
import java.util.TreeSet;
import java.util.regex.Matcher;
import java.util.regex.Pattern;

/** The class's public face, and the rules of LANGUAGE.md that can be seen from outside or from its source. */
public final class FaceTest {
    private static int wrong = 0;

    private static final String[] FACE = {
        "piece(int,int,int,int,int)", "worn(int,int)", "of(int,int,int)", "lost()", "said(int,long,int,int)",
        "bit(int,long,int,int)", "write(long,int)", "erase()", "fault()", "told()", "word(int,int)",
        "line(int,int,int)", "jar(int,int,int)", "call(int,int,int,int,int,boolean)", "run(int)", "heard(int,int)",
        "speaks(int)", "voice(int,int)", "wish(int,int,int)", "change(int)", "record()", "crowd(int,int)",
        "understood(int,int)", "power(int,int)", "count(int)"};

    private static final String[] BANNED = {"throw", "throws", "try", "catch", "finally", "synchronized", "assert",
        "Object", "var", "native", "volatile", "transient", "System.out", "Random", "Thread", "strictfp", "protected"};

    private static void due(String what, boolean holds) {
        if (!holds) {
            wrong++;
            System.out.println("not so: " + what);
        }
    }

    public static void main(String[] args) throws IOException {
        methods();
        constants();
        classes();
        source(Files.readString(Path.of(System.getProperty("onevoice.source", "src/main/java/OneVoice.java"))));
        System.out.println(wrong == 0 ? "the face is as due" : wrong + " rules are broken");
        if (wrong != 0) {
            System.exit(1);
        }
    }

    private static String told(Method method) {
        StringBuilder made = new StringBuilder(method.getName()).append('(');
        for (Class<?> type : method.getParameterTypes()) {
            made.append(made.charAt(made.length() - 1) == '(' ? "" : ",").append(type.getName());
        }
        return made.append(')').toString();
    }

    private static void methods() {
        Set<String> open = new TreeSet<>();
        Set<String> names = new TreeSet<>();
        for (Method method : OneVoice.class.getDeclaredMethods()) {
            if (!Modifier.isPrivate(method.getModifiers())) {
                open.add(told(method));
                names.add(method.getName());
                due(told(method) + " is public, answers int and is not static", method.getReturnType() == int.class
                    && Modifier.isPublic(method.getModifiers()) && !Modifier.isStatic(method.getModifiers()));
            }
        }
        due("the methods are those of the document: " + open, open.equals(new TreeSet<>(List.of(FACE))));
        for (Method method : OneVoice.class.getDeclaredMethods()) {
            due("private " + told(method) + " has a name of its own",
                !Modifier.isPrivate(method.getModifiers()) || !names.contains(method.getName()));
        }
        Constructor<?>[] made = OneVoice.class.getDeclaredConstructors();
        due("one public constructor without parameters", made.length == 1 && made[0].getParameterCount() == 0
            && Modifier.isPublic(made[0].getModifiers()));
    }

    private static void constants() {
        Set<String> open = new TreeSet<>();
        for (Field field : OneVoice.class.getDeclaredFields()) {
            if (!Modifier.isPrivate(field.getModifiers())) {
                open.add(field.getName());
            }
            due(field.getName() + " is final if it is static",
                !Modifier.isStatic(field.getModifiers()) || Modifier.isFinal(field.getModifiers()));
        }
        due("the constants are those of the document: " + open,
            open.equals(new TreeSet<>(List.of("NONE", "UNKNOWN", "OUTSIDE", "NOT", "FULL"))));
        due("their values", OneVoice.NONE == -1 && OneVoice.UNKNOWN == -2 && OneVoice.OUTSIDE == -3
            && OneVoice.NOT == -4 && OneVoice.FULL == -5);
    }

    private static void classes() {
        int flags = OneVoice.class.getModifiers();
        due("the class is public and final", Modifier.isPublic(flags) && Modifier.isFinal(flags));
        Class<?>[] inside = OneVoice.class.getDeclaredClasses();
        due("at most twelve classes", inside.length < 12);
        for (Class<?> one : inside) {
            due(one + " is static and not public",
                Modifier.isStatic(one.getModifiers()) && !Modifier.isPublic(one.getModifiers()));
            long fields = Arrays.stream(one.getDeclaredFields())
                .filter(field -> !Modifier.isStatic(field.getModifiers())).count();
            due(one + " has at most twenty fields", fields <= 20);
            for (Method method : one.getDeclaredMethods()) {
                due(told(method) + " has seven parameters at most", method.getParameterCount() <= 7);
                due(told(method) + " has no name of the face",
                    Arrays.stream(FACE).noneMatch(face -> face.startsWith(method.getName() + "(")));
            }
        }
    }

    private static void source(String whole) {
        String code = whole.replaceAll("(?s)/\\*.*?\\*/", "").replaceAll("//[^\n]*", "");
        due("no package", !Pattern.compile("(?m)^package ").matcher(code).find());
        Matcher imports = Pattern.compile("(?m)^import .*$").matcher(code);
        while (imports.find()) {
            due(imports.group() + " is of the library that is left", imports.group().equals("import java.util.Arrays;"));
        }
        for (String word : BANNED) {
            due("no " + word, !Pattern.compile("\\b" + Pattern.quote(word) + "\\b").matcher(code).find());
        }
        due("no lambda, no method reference", !code.contains("->") && !code.contains("::"));
        due("signs of 1 to 127 alone", whole.chars().allMatch(sign -> sign < 128));
        shortMethods(code.split("\n"));
    }

    /** A method begins at a line that ends with ") {" and is no statement, and ends where its indent comes again. */
    private static void shortMethods(String[] lines) {
        for (int i = 0; i < lines.length; i++) {
            String line = lines[i].strip();
            if (line.endsWith(") {") && !line.matches("(if|for|while|switch|\\}).*")) {
                String end = lines[i].substring(0, lines[i].indexOf(line)) + "}";
                int last = i;
                while (last < lines.length && !lines[last].equals(end)) {
                    last++;
                }
                due(line + " has sixty lines at most", last - i <= 60);
            }
        }
    }
}
