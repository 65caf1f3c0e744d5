import java.lang.reflect.Field;
import java.lang.reflect.Method;
import java.lang.reflect.Modifier;
import java.nio.charset.StandardCharsets;
import java.nio.file.Files;
import java.nio.file.Path;
import java.util.ArrayList;
import java.util.Arrays;
import java.util.List;
import java.util.Set;
import java.util.TreeSet;
import java.util.regex.Matcher;
import java.util.regex.Pattern;

/** The rules of LANGUAGE.md that can be read off the source and the compiled class. */
public final class LanguageTest {
    private static final String[] FACE = {
        "rule(int,int,int,int,int,int)int", "ahead(int,int)int", "fault(int,int)boolean", "begin(int,int,int)int",
        "step(int,int)int", "clerk(int,int)int", "job(int,int)int", "drawer(int,int)int", "at(int,int,boolean)int",
        "nth(int)int", "rank(int)int", "there(int,int,int)int", "line(int)int", "order(int,int)int", "shape()int",
        "found(int,int)int", "fall()int", "night(int)int", "count(int)int"};
    private static final String[] FORBIDDEN = {
        "throw", "throws", "try", "catch", "finally", "synchronized", "assert", "Exact", "System\\.out", "System\\.exit",
        "currentTimeMillis", "nanoTime", "Random", "Thread", "hashCode", "toString", "getClass", "->", "::", "var"};

    private static int wrong = 0;

    public static void main(String[] args) throws Exception {
        face();
        classes();
        source();
        System.out.println("LanguageTest: " + wrong + " wrong");
        if (wrong != 0) System.exit(1);
    }

    private static void check(boolean right, String what) {
        if (!right) {
            wrong++;
            System.out.println(what);
        }
    }

    private static void face() {
        Class<?> face = DrawerRoom.class;
        check(Modifier.isPublic(face.getModifiers()) && Modifier.isFinal(face.getModifiers()), "not public and final");
        Set<String> told = new TreeSet<>();
        Set<String> names = new TreeSet<>();
        for (Method method : face.getDeclaredMethods()) {
            if (!Modifier.isPublic(method.getModifiers())) continue;
            names.add(method.getName());
            List<String> types = new ArrayList<>();
            for (Class<?> type : method.getParameterTypes()) types.add(type.getName());
            told.add(method.getName() + "(" + String.join(",", types) + ")" + method.getReturnType().getName());
        }
        check(told.equals(new TreeSet<>(Arrays.asList(FACE))), "the face is " + told);
        for (Method method : face.getDeclaredMethods()) {
            boolean hidden = Modifier.isPrivate(method.getModifiers());
            check(hidden || Modifier.isPublic(method.getModifiers()), "neither public nor private: " + method);
            check(!hidden || !names.contains(method.getName()), "a private method with a public name: " + method);
        }
        for (Field field : face.getDeclaredFields()) {
            boolean constant = field.getName().equals("NONE") && Modifier.isPublic(field.getModifiers());
            check(constant || Modifier.isPrivate(field.getModifiers()), "a field that can be seen: " + field);
        }
        check(face.getDeclaredConstructors().length == 1 && face.getConstructors().length == 1, "one public constructor");
        check(face.getConstructors()[0].getParameterCount() == 1, "the constructor takes B alone");
    }

    private static void classes() {
        List<Class<?>> all = new ArrayList<>(Arrays.asList(DrawerRoom.class.getDeclaredClasses()));
        all.add(DrawerRoom.class);
        check(all.size() <= 12, "classes: " + all.size());
        for (Class<?> one : all) {
            boolean inner = one != DrawerRoom.class;
            check(!inner || Modifier.isStatic(one.getModifiers()), "not static: " + one);
            check(!inner || !Modifier.isPublic(one.getModifiers()), "public inside: " + one);
            check(one.getDeclaredClasses().length == 0 || !inner, "classes inside of " + one);
            int fields = 0;
            for (Field field : one.getDeclaredFields()) {
                boolean isStatic = Modifier.isStatic(field.getModifiers());
                check(!isStatic || Modifier.isFinal(field.getModifiers()), "static and not final: " + field);
                if (!isStatic) fields++;
            }
            check(fields <= 20, one + " has " + fields + " fields");
            for (Method method : one.getDeclaredMethods()) {
                check(method.getParameterCount() <= 7, "too many parameters: " + method);
                check(!method.isSynthetic(), "made by the compiler: " + method);
                boolean face = Modifier.isPublic(method.getModifiers()) && !inner;
                for (String told : FACE) {
                    check(face || !told.startsWith(method.getName() + "("), "a name of the face inside: " + method);
                }
            }
        }
    }

    private static void source() throws Exception {
        byte[] bytes = Files.readAllBytes(Path.of("src/main/java/DrawerRoom.java"));
        for (byte one : bytes) check(one > 0, "a sign outside of 1 .. 127");
        String text = new String(bytes, StandardCharsets.ISO_8859_1);
        String code = text.replaceAll("(?s)/\\*.*?\\*/", "").replaceAll("//[^\n]*", "");
        for (String word : FORBIDDEN) {
            boolean sign = !Character.isLetter(word.charAt(0));
            Matcher found = Pattern.compile(sign ? word : "\\b" + word + "\\b").matcher(code);
            check(!found.find(), "forbidden: " + word);
        }
        Matcher imports = Pattern.compile("import ([^;]+);").matcher(code);
        while (imports.find()) check(imports.group(1).equals("java.util.Arrays"), "import " + imports.group(1));
        Matcher arrays = Pattern.compile("\\b(Arrays|System|Math)\\.(\\w+)").matcher(code);
        List<String> allowed = Arrays.asList("Arrays.fill", "System.arraycopy", "Math.max", "Math.min", "Math.abs");
        while (arrays.find()) check(allowed.contains(arrays.group()), "library: " + arrays.group());
        check(!code.contains("package "), "a package line");
        check(!code.contains("\t"), "a tab");
        methodsAreShort(text.split("\n"));
    }

    private static void methodsAreShort(String[] lines) {
        int start = -1;
        String indent = "";
        for (int i = 0; i < lines.length; i++) {
            Matcher head = Pattern.compile("^( {4}| {8})(?! )[^=]*\\(.*\\) \\{$").matcher(lines[i]);
            if (start < 0 && head.find()) {
                start = i;
                indent = head.group(1);
            } else if (start >= 0 && lines[i].equals(indent + "}")) {
                check(i - start < 60, "a long method at line " + (start + 1));
                start = -1;
            }
        }
    }
}
