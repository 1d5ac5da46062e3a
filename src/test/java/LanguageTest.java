import java.io.IOException;
import java.lang.reflect.Constructor;
import java.lang.reflect.Field;
import java.lang.reflect.Method;
import java.lang.reflect.Modifier;
import java.nio.charset.StandardCharsets;
import java.nio.file.Files;
import java.nio.file.Paths;
import java.util.Arrays;
import java.util.HashSet;
import java.util.Set;
import java.util.TreeSet;
import java.util.regex.Matcher;
import java.util.regex.Pattern;

/** LANGUAGE.md as far as the text and the compiled class show it. Argument: the path of the source. */
public final class LanguageTest {
    private static final Due DUE = new Due("LanguageTest");
    private static final String[] FACE = {
        "int town()", "boolean road(int,int,int)", "int miles(int,int)", "int train()",
        "int stop(int,int,int,int,boolean)", "int stopOf(int,int,int)", "boolean late(int,int,int)",
        "boolean miss(int,int,int)", "int minutes(int)", "int look(int)", "int feed(int,int,int,int,int)",
        "boolean end(int)", "int act(int)", "int fault(int)", "int inForce(int,int)",
        "int post(int,int,int,int,int,int)", "int of(int,int)", "int charge(int,int)",
        "int way(int,int,int,int)", "int lead(int,int,int)", "int where(int,int,int)", "int sorter(int,int)",
        "boolean seat(int,int)", "int run(int,int,int)", "int account(int,int,int)", "boolean nobody(int)",
        "boolean place(int,int,int)", "long order(int,int)", "boolean found(int,int)", "int rob(int,int)",
        "int robbery(int,int)", "boolean set(int)", "boolean seen(int,int)", "int clock(int,int)",
        "int trueMinute(int,int,int)", "long tried(int)", "int whatIf(int,int,int)", "int seats(int)"
    };
    private static final String[] LIBRARY = {
        "java.lang.Object", "java.lang.String", "java.util.Arrays", "java.lang.Math", "java.lang.System"
    };

    public static void main(String[] args) throws IOException {
        face();
        for (Class<?> inner : InlandMails.class.getDeclaredClasses()) {
            inner(inner);
        }
        DUE.is("classes, with the face", InlandMails.class.getDeclaredClasses().length + 1 <= 12, true);
        if (args.length > 0) {
            text(new String(Files.readAllBytes(Paths.get(args[0])), StandardCharsets.UTF_8));
        }
        DUE.close();
    }

    private static void face() {
        Class<?> face = InlandMails.class;
        DUE.is("public final", face.getModifiers(), Modifier.PUBLIC | Modifier.FINAL);
        Set<String> open = new TreeSet<>();
        Set<String> hidden = new HashSet<>();
        for (Method method : face.getDeclaredMethods()) {
            if (Modifier.isPrivate(method.getModifiers())) {
                hidden.add(method.getName());
            } else {
                open.add(told(method));
                DUE.is("public alone: " + method, method.getModifiers(), Modifier.PUBLIC);
            }
        }
        DUE.is("the methods of the face: " + open, open.equals(new TreeSet<>(Arrays.asList(FACE))), true);
        for (String method : FACE) {
            String name = method.substring(method.indexOf(' ') + 1, method.indexOf('('));
            DUE.is("a hidden method named " + name, hidden.contains(name), false);
        }
        for (Field field : face.getDeclaredFields()) {
            boolean isPrivate = Modifier.isPrivate(field.getModifiers());
            DUE.is("hidden: " + field, isPrivate, !field.getName().equals("NONE"));
        }
        Constructor<?>[] constructors = face.getDeclaredConstructors();
        DUE.is("constructors", constructors.length, 1);
        DUE.is("the constructor is public", constructors[0].getModifiers(), Modifier.PUBLIC);
        fields(face);
    }

    private static String told(Method method) {
        StringBuilder text = new StringBuilder();
        text.append(method.getReturnType()).append(' ').append(method.getName()).append('(');
        for (int i = 0; i < method.getParameterCount(); i++) {
            text.append(i > 0 ? "," : "").append(method.getParameterTypes()[i]);
        }
        return text.append(')').toString();
    }

    private static void inner(Class<?> inner) {
        DUE.is("static: " + inner, Modifier.isStatic(inner.getModifiers()), true);
        DUE.is("no inner classes of " + inner, inner.getDeclaredClasses().length, 0);
        for (Method method : inner.getDeclaredMethods()) {
            DUE.is("not public: " + method, Modifier.isPublic(method.getModifiers()), false);
            DUE.is("at most seven parameters: " + method, method.getParameterCount() <= 7, true);
            for (String name : FACE) {
                DUE.is("no name of the face: " + method, name.contains(" " + method.getName() + "("), false);
            }
        }
        fields(inner);
    }

    private static void fields(Class<?> inner) {
        int own = 0;
        for (Field field : inner.getDeclaredFields()) {
            if (Modifier.isStatic(field.getModifiers())) {
                DUE.is("final: " + field, Modifier.isFinal(field.getModifiers()), true);
            } else {
                own++;
            }
        }
        DUE.is("fields of " + inner + ": " + own, own <= 20, true);
    }

    /** Comments and signs between quotes are taken out first. */
    private static void text(String source) {
        String code = source.replaceAll("(?s)/\\*.*?\\*/", " ").replaceAll("//[^\n]*", " ")
            .replaceAll("'(\\\\.|[^'])'", "0");
        DUE.is("no text constants", code.contains("\""), false);
        String[] words = {"throw", "throws", "try", "catch", "finally", "synchronized", "assert", "instanceof",
            "native", "volatile", "transient", "protected", "package", "Object", "Thread", "random", "hashCode",
            "equals", "toString", "getClass", "StringBuilder", "float", "double", "var", "yield", "goto"};
        for (String word : words) {
            DUE.is("the word " + word, Pattern.compile("\\b" + word + "\\b").matcher(code).find(), false);
        }
        DUE.is("no clone", code.contains("clone("), false);
        DUE.is("no values()", code.contains("values("), false);
        DUE.is("no lambda", code.contains("->"), false);
        DUE.is("no method reference", code.contains("::"), false);
        Matcher imports = Pattern.compile("import ([^;]*);").matcher(code);
        while (imports.find()) {
            DUE.is("import " + imports.group(1), Arrays.asList(LIBRARY).contains(imports.group(1)), true);
        }
        Matcher calls = Pattern.compile("\\b(Arrays|Math|System|Integer|Long)\\.(\\w+)").matcher(code);
        Set<String> good = new HashSet<>(Arrays.asList("Arrays.fill", "Math.min", "Math.max",
            "System.arraycopy"));
        while (calls.find()) {
            DUE.is("library: " + calls.group(), good.contains(calls.group()), true);
        }
        DUE.is("no while without a count", Pattern.compile("\\bwhile\\b").matcher(code).find(), false);
        lengths(code);
    }

    /**
     * A method stands four or eight blanks in; its last line is a brace as far in. Constructors alone
     * make rows and parts.
     */
    private static void lengths(String code) {
        String[] lines = code.split("\n");
        String header = " {4}( {4})?(?!for |if |switch |while |do )[A-Za-z].*\\) \\{";
        int methods = 0;
        int made = 0;
        for (int i = 0; i < lines.length; i++) {
            if (!lines[i].matches(header)) {
                continue;
            }
            methods++;
            String end = lines[i].substring(0, lines[i].indexOf(lines[i].trim())) + "}";
            boolean constructor = lines[i].matches(" *(public |private )?[A-Z]\\w*\\(.*");
            int start = i;
            for (; i < lines.length && !lines[i].equals(end); i++) {
                if (Pattern.compile("\\bnew\\b").matcher(lines[i]).find()) {
                    DUE.is("made in " + lines[start].trim(), constructor, true);
                    made++;
                }
            }
            DUE.is("lines of " + lines[start].trim() + ": " + (i - start), i - start <= 60, true);
        }
        DUE.is("methods were seen", methods > 38, true);
        DUE.is("constructors make parts", made > 0, true);
    }
}
