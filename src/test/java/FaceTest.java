import java.lang.reflect.Constructor;
import java.lang.reflect.Field;
import java.lang.reflect.Method;
import java.lang.reflect.Modifier;
import java.nio.file.Files;
import java.nio.file.Path;
import java.util.ArrayList;
import java.util.Collections;
import java.util.List;
import java.util.regex.Matcher;
import java.util.regex.Pattern;

/** The public face, and those rules of LANGUAGE.md that can be told from the class and its text. */
public final class FaceTest {
    private static final Due DUE = new Due();
    private static final String[] METHODS = {
        "int type(int,int)", "int method(int,int,int)", "boolean initialiser(int,int)", "int code(int,int,int)",
        "boolean guard(int,int,int,int)", "int close()", "int typeAt(int,int,int)", "int answer(int,int)",
        "int slot(int,int)", "boolean live(int)", "int targets(int,int)", "int run(int,int)", "int result()",
        "int steps()", "int prints()", "int printed(int)", "int begun(int)", "int objects()", "int kept(int)"};
    private static final String[] CONSTANTS = {
        "NONE=-1", "NUMBER=9", "UNSET=8", "NULLED=-1", "DIVIDE=-2", "MISCAST=-3", "MEMORY=-4", "DEEP=-5"};
    private static final String[] FORBIDDEN = {
        "throw", "try", "catch", "synchronized", "assert", "Random", "System.nanoTime", "System.currentTimeMillis",
        "Thread", "->", "::", "double", "float", "new Integer", "values()"};

    public static void main(String[] args) throws Exception {
        DUE.is("the class is public and final",
                ClosedWorld.class.getModifiers(), Modifier.PUBLIC | Modifier.FINAL);
        methods();
        constants();
        constructors();
        nestedClasses();
        text();
        DUE.end();
    }

    private static void methods() {
        List<String> wanted = new ArrayList<>(List.of(METHODS));
        List<String> names = new ArrayList<>();
        for (Method method : ClosedWorld.class.getDeclaredMethods()) {
            if (Modifier.isPrivate(method.getModifiers())) {
                names.add(method.getName());
                continue;
            }
            List<String> types = new ArrayList<>();
            for (Class<?> type : method.getParameterTypes()) {
                types.add(type.getName());
            }
            String told = method.getReturnType() + " " + method.getName() + "(" + String.join(",", types) + ")";
            DUE.is("of the face: " + told, wanted.remove(told), true);
            DUE.is("public: " + told, method.getModifiers(), Modifier.PUBLIC);
        }
        DUE.is("the face has all of " + wanted, wanted.size(), 0);
        for (String told : METHODS) {
            String name = told.substring(told.indexOf(' ') + 1, told.indexOf('('));
            DUE.is("private and public: " + name, names.contains(name), false);
        }
    }

    private static void constants() throws Exception {
        List<String> wanted = new ArrayList<>(List.of(CONSTANTS));
        for (Field field : ClosedWorld.class.getDeclaredFields()) {
            if (!Modifier.isPrivate(field.getModifiers())) {
                String told = field.getName() + "=" + field.getInt(null);
                DUE.is("of the face: " + told, wanted.remove(told), true);
            }
            boolean changes = Modifier.isStatic(field.getModifiers()) && !Modifier.isFinal(field.getModifiers());
            DUE.is("static and not final: " + field, changes, false);
        }
        DUE.is("the face has all of " + wanted, wanted.size(), 0);
    }

    private static void constructors() {
        Constructor<?>[] made = ClosedWorld.class.getDeclaredConstructors();
        DUE.is("constructors", made.length, 1);
        DUE.is("constructor: public", Modifier.isPublic(made[0].getModifiers()), true);
        DUE.is("constructor: parameters", made[0].getParameterCount(), 0);
    }

    private static void nestedClasses() {
        Class<?>[] nested = ClosedWorld.class.getDeclaredClasses();
        DUE.is("at most twelve classes", nested.length < 12, true);
        for (Class<?> type : nested) {
            int modifiers = type.getModifiers();
            DUE.is("static: " + type, Modifier.isStatic(modifiers), true);
            DUE.is("not public: " + type, Modifier.isPublic(modifiers) || Modifier.isProtected(modifiers), false);
            int fields = 0;
            for (Field field : type.getDeclaredFields()) {
                fields += Modifier.isStatic(field.getModifiers()) ? 0 : 1;
                DUE.is("final when static: " + field,
                        Modifier.isStatic(field.getModifiers()) && !Modifier.isFinal(field.getModifiers()), false);
            }
            DUE.is("fields of " + type + " (" + fields + ")", fields <= 20, true);
            for (Method method : type.getDeclaredMethods()) {
                DUE.is("parameters of " + method, method.getParameterCount() <= 7, true);
            }
        }
    }

    private static void text() throws Exception {
        String text = Files.readString(Path.of("src/main/java/ClosedWorld.java"));
        String code = text.replaceAll("(?s)/\\*.*?\\*/", "").replaceAll("//[^\n]*", "");
        for (String word : FORBIDDEN) {
            String found = Character.isLetter(word.charAt(0)) && Character.isLetter(word.charAt(word.length() - 1))
                    ? "\\b" + word + "\\b" : Pattern.quote(word);
            DUE.is("the text has " + word, Pattern.compile(found).matcher(code).find(), false);
        }
        Matcher imports = Pattern.compile("import ([^;]*);").matcher(code);
        while (imports.find()) {
            DUE.is("import " + imports.group(1), imports.group(1).equals("java.util.Arrays"), true);
        }
        DUE.is("a package line", code.contains("package "), false);
        DUE.is("the longest method has " + longest(text) + " lines", longest(text) <= 60, true);
    }

    private static int longest(String text) {
        List<Integer> lengths = new ArrayList<>(List.of(0));
        String opening = null;
        int length = 0;
        for (String line : text.split("\n")) {
            String indent = line.substring(0, line.length() - line.stripLeading().length());
            if (opening == null && line.matches(" {4,8}\\w[^=;]*\\) \\{") && !line.contains(" class ")) {
                opening = indent;
                length = 0;
            }
            length++;
            if (opening != null && line.equals(opening + "}")) {
                lengths.add(length);
                opening = null;
            }
        }
        return Collections.max(lengths);
    }
}
