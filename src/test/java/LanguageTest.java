import java.io.IOException;
import java.lang.reflect.Constructor;
import java.lang.reflect.Field;
import java.lang.reflect.Method;
import java.lang.reflect.Modifier;
import java.nio.file.Files;
import java.nio.file.Path;
import java.util.Arrays;
import java.util.Set;
import java.util.TreeSet;
import java.util.regex.Matcher;
import java.util.regex.Pattern;

/** The rules of LANGUAGE.md that can be seen from the class file's face and the source's words. */
public final class LanguageTest {
    private static final String[] FACE = {
        "UNKNOWN", "OUT_OF_RANGE", "FULL", "NONE", "REFUSED",
        "CousinShares()",
        "plant(int,int,int)", "weigh(int,int,int)", "grudge(int,int,int)", "set(int,int)", "divide(int)",
        "give(int,int)", "trade(int,int)", "settle()", "type(char)", "clearText()", "perform()", "undo()",
        "keep()", "restore()", "plot(int,int)", "cousin(int,int)", "pair(int,int,int)", "total(int)",
        "ifDivided(int,int)", "bestTrade(int)", "bestWithout(int)"};

    private static final String[] FORBIDDEN = {
        "\\bthrow\\b", "\\bthrows\\b", "\\btry\\b", "\\bcatch\\b", "\\bsynchronized\\b", "\\bassert\\b", "->", "::",
        "Exact\\b", "\\bimport\\b", "\\bpackage\\b", "\\bSystem\\.(?!arraycopy)", "\\bfloat\\b", "\\bdouble\\b",
        "\\bnative\\b", "\\bvolatile\\b", "\"", "\\bObject\\b", "\\bstatic\\s*\\{", "@"};

    private static int wrong = 0;

    private static void check(boolean right, String fault) {
        if (!right) {
            wrong++;
            System.out.println(fault);
        }
    }

    private static String signature(String name, Class<?>[] parameters) {
        StringBuilder text = new StringBuilder(name).append('(');
        for (int i = 0; i < parameters.length; i++) {
            text.append(i == 0 ? "" : ",").append(parameters[i].getName());
        }
        return text.append(')').toString();
    }

    private static void checkFace() {
        Set<String> face = new TreeSet<>();
        Set<String> publicNames = new TreeSet<>();
        for (Field field : CousinShares.class.getDeclaredFields()) {
            if (!Modifier.isPrivate(field.getModifiers())) {
                face.add(field.getName());
            }
        }
        for (Constructor<?> constructor : CousinShares.class.getDeclaredConstructors()) {
            face.add(signature("CousinShares", constructor.getParameterTypes()));
        }
        for (Method method : CousinShares.class.getDeclaredMethods()) {
            if (!Modifier.isPrivate(method.getModifiers())) {
                face.add(signature(method.getName(), method.getParameterTypes()));
                publicNames.add(method.getName());
                check(method.getReturnType() == int.class, method.getName() + " returns no int");
            }
        }
        check(face.equals(new TreeSet<>(Arrays.asList(FACE))), "the face is " + face);
        for (Method method : CousinShares.class.getDeclaredMethods()) {
            check(!Modifier.isPrivate(method.getModifiers()) || !publicNames.contains(method.getName()),
                "a private method is named " + method.getName());
        }
        check(Modifier.isFinal(CousinShares.class.getModifiers()), "the class is not final");
    }

    private static void checkClasses() {
        Class<?>[] inside = CousinShares.class.getDeclaredClasses();
        check(inside.length + 1 <= 12, "too many classes");
        for (Class<?> c : inside) {
            check(Modifier.isStatic(c.getModifiers()), c.getName() + " is not static");
            check(c.getDeclaredFields().length <= 20, c.getName() + " has too many fields");
            for (Field field : c.getDeclaredFields()) {
                check(!Modifier.isStatic(field.getModifiers()), c.getName() + " has a static field");
            }
        }
    }

    /** Rules 5 and 11, for the class itself and those inside it. */
    private static void checkMembers(Class<?> c) {
        for (Field field : c.getDeclaredFields()) {
            int modifiers = field.getModifiers();
            check(!Modifier.isStatic(modifiers) || (Modifier.isFinal(modifiers) && field.getType() == int.class),
                field.getName() + " is static, but no constant");
        }
        for (Method method : c.getDeclaredMethods()) {
            check(method.getParameterCount() <= 7, method.getName() + " takes too many parameters");
        }
    }

    private static void checkWords() throws IOException {
        String source = Files.readString(Path.of("src/main/java/CousinShares.java"));
        String code = source.replaceAll("(?s)/\\*.*?\\*/", "").replaceAll("//[^\n]*", "");
        for (String word : FORBIDDEN) {
            Matcher matcher = Pattern.compile(word).matcher(code);
            check(!matcher.find(), "forbidden: " + word);
        }
        check(source.chars().allMatch(c -> c < 128), "a sign above 127");
    }

    public static void main(String[] args) throws IOException {
        checkFace();
        checkClasses();
        checkMembers(CousinShares.class);
        for (Class<?> inside : CousinShares.class.getDeclaredClasses()) {
            checkMembers(inside);
        }
        checkWords();
        System.out.println(wrong == 0 ? "the rules that are looked at are kept" : wrong + " faults");
        if (wrong != 0) {
            System.exit(1);
        }
    }
}
