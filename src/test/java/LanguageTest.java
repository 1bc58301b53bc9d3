import java.lang.reflect.Constructor;
import java.lang.reflect.Field;
import java.lang.reflect.Method;
import java.lang.reflect.Modifier;
import java.nio.charset.StandardCharsets;
import java.nio.file.Files;
import java.nio.file.Path;
import java.util.ArrayList;
import java.util.Arrays;
import java.util.List;
import java.util.Set;
import java.util.TreeSet;
import java.util.regex.Matcher;
import java.util.regex.Pattern;

/** The rules of LANGUAGE.md that can be seen from the source and from the face. */
final class LanguageTest {
    private static final int LONGEST_METHOD = 60;
    private static final int MOST_FIELDS = 20;
    private static final int MOST_CLASSES = 12;
    private static final int MOST_PARAMETERS = 7;

    private static final String[] FACE = {
        "add(int,int,int)", "drop(int,int)", "delete(int)", "bring(int)", "weight(int,int)",
        "want(int)", "bribe(int,int)", "begin(int,boolean)", "step(int)", "end()", "type(char)",
        "clearText()", "perform()", "undo()", "keep()", "restore()", "list(int,int)",
        "entry(int,int,int)", "document(int,int)", "wanted(int)", "clerk(int,int)",
        "seen(int,int)", "told(int)", "reading(int)", "trial(int,boolean,int)", "cheapest()",
        "count(int)"};
    private static final String[] CONSTANTS = {
        "UNKNOWN", "BAD_VALUE", "FULL", "NOT_POSSIBLE", "NONE"};

    private LanguageTest() {
    }

    static void run(String source) throws Exception {
        Check.promise("LANGUAGE.md");
        face();
        classesInside();
        words(Files.readString(Path.of(source), StandardCharsets.UTF_8));
    }

    private static String sign(Method method) {
        List<String> types = new ArrayList<>();
        for (Class<?> type : method.getParameterTypes()) {
            types.add(type.getName());
        }
        return method.getName() + "(" + String.join(",", types) + ")";
    }

    private static void face() {
        Class<?> face = BribedClerks.class;
        Check.due("rule 1: public and final", face.getModifiers(), Modifier.PUBLIC | Modifier.FINAL);
        Set<String> methods = new TreeSet<>();
        for (Method method : face.getDeclaredMethods()) {
            if (!Modifier.isPrivate(method.getModifiers())) {
                methods.add(sign(method));
                Check.holds("rule 1: " + method + " is public and answers an int",
                    method.getModifiers() == Modifier.PUBLIC && method.getReturnType() == int.class);
            }
        }
        Check.holds("rule 1: the methods " + methods,
            methods.equals(new TreeSet<>(Arrays.asList(FACE))));
        Set<String> constants = new TreeSet<>();
        for (Field field : face.getDeclaredFields()) {
            if (!Modifier.isPrivate(field.getModifiers())) {
                constants.add(field.getName());
            }
        }
        Check.holds("rule 1: the constants " + constants,
            constants.equals(new TreeSet<>(Arrays.asList(CONSTANTS))));
        Constructor<?>[] constructors = face.getDeclaredConstructors();
        Check.due("rule 1: constructors", constructors.length, 1);
        Check.due("rule 1: the constructor is public",
            constructors[0].getModifiers(), Modifier.PUBLIC);
    }

    private static void classesInside() {
        List<Class<?>> classes = new ArrayList<>();
        classes.add(BribedClerks.class);
        classes.addAll(Arrays.asList(BribedClerks.class.getDeclaredClasses()));
        Check.holds("rule 11: classes", classes.size() <= MOST_CLASSES);
        Set<String> publicNames = new TreeSet<>();
        for (String method : FACE) {
            publicNames.add(method.substring(0, method.indexOf('(')));
        }
        for (Class<?> each : classes) {
            boolean isFace = each == BribedClerks.class;
            Check.holds("rule 1: " + each + " is static and not public", isFace
                || Modifier.isStatic(each.getModifiers()) && !Modifier.isPublic(each.getModifiers()));
            int fields = 0;
            for (Field field : each.getDeclaredFields()) {
                boolean isStatic = Modifier.isStatic(field.getModifiers());
                fields += isStatic ? 0 : 1;
                Check.holds("rule 5: " + field + " is final",
                    !isStatic || Modifier.isFinal(field.getModifiers()));
            }
            Check.holds("rule 11: fields of " + each, fields <= MOST_FIELDS);
            for (Method method : each.getDeclaredMethods()) {
                Check.holds("rule 11: parameters of " + method,
                    method.getParameterCount() <= MOST_PARAMETERS);
                boolean isPublic = Modifier.isPublic(method.getModifiers());
                Check.holds("rule 1: the name of " + method,
                    isFace && isPublic || !publicNames.contains(method.getName()));
            }
        }
    }

    private static void words(String source) {
        for (int i = 0; i < source.length(); i++) {
            Check.holds("rule 4: signs 1 to 127", source.charAt(i) >= 1 && source.charAt(i) < 128);
        }
        String code = source.replaceAll("(?s)/\\*.*?\\*/", "").replaceAll("//[^\n]*", "");
        String bare = code.replaceAll("\"[^\"\n]*\"", "TEXT");
        String[] forbidden = {"\\bthrow\\b", "\\bthrows\\b", "\\btry\\b", "\\bcatch\\b",
            "\\bsynchronized\\b", "\\bassert\\b", "\\bpackage\\b", "\\bprotected\\b", "->", "::",
            "Exact\\b", "\\bvar\\b", "\\bString\\[", "static \\{", "TEXT \\+", "\\+ TEXT",
            "\\bfloat\\b", "\\bdouble\\b", "\\bSystem\\.(?!arraycopy)", "\\bThread\\b", "\\bObject\\b",
            "\\bequals\\b", "\\bhashCode\\b", "\\btoString\\b", "\\binterface\\b"};
        for (String word : forbidden) {
            Check.holds("no " + word, !Pattern.compile(word).matcher(bare).find());
        }
        Matcher imports = Pattern.compile("import ([^;]*);").matcher(bare);
        while (imports.find()) {
            Check.holds("rule 4: import " + imports.group(1),
                imports.group(1).equals("java.util.Arrays"));
        }
        methodLengths(source.split("\n"));
    }

    private static void methodLengths(String[] lines) {
        Pattern head = Pattern.compile("^( {4}| {8})(public|private)[^=;]*\\([^;]*\\{$");
        for (int start = 0; start < lines.length; start++) {
            Matcher matcher = head.matcher(lines[start]);
            if (matcher.find()) {
                int end = start;
                while (end < lines.length && !lines[end].equals(matcher.group(1) + "}")) {
                    end++;
                }
                Check.holds("rule 11: the method at line " + (start + 1) + " is short",
                    end - start + 1 <= LONGEST_METHOD);
            }
        }
    }
}
