import java.io.IOException;
import java.lang.reflect.Constructor;
import java.lang.reflect.Field;
import java.lang.reflect.Method;
import java.lang.reflect.Modifier;
import java.nio.file.Files;
import java.nio.file.Path;
import java.util.ArrayList;
import java.util.HashSet;
import java.util.List;
import java.util.Set;
import java.util.TreeSet;
import java.util.regex.Matcher;
import java.util.regex.Pattern;

/** The face of the class, and the rules of LANGUAGE.md that can be seen from the source or by reflection. */
public final class LanguageTest {
    private static final String[] FACE = {"clear(int)", "put(int,int,int,int)", "at(int,int)", "fraction(int,int)",
        "add(int,int,int,int)", "times(int,int,int)", "bracket(int,int,int)", "shuffle(int,int,int)", "turn(int,int)",
        "exp(int,int)", "log(int,int)", "inverse(int,int)", "group(int,int,int)", "derive(int,int,int,int)",
        "replace(int,int,int,int)", "part(int,int,int)", "pair(int,int)", "lyndon(int)", "lyndons(int)", "side(int,int)",
        "basis(int,int)", "text(int,int)", "share(int,int)", "lie(int)", "table(int,int,int)", "step(int,int,int)",
        "unstep()", "scheme(int)", "order()", "relate(int)", "size(int)", "feed(long,int)", "read(int)", "count(int)"};
    private static final String[] CONSTANTS = {"NONE", "BAD", "STATE", "FULL", "NO"};
    private static final int[] VALUES = {-1, -2, -3, -4, Integer.MIN_VALUE};
    private static int wrong = 0;

    public static void main(String[] args) throws IOException, ReflectiveOperationException {
        checkFace();
        checkClasses();
        String source = Files.readString(Path.of(args.length > 0 ? args[0] : "src/main/java/BracketLetters.java"));
        checkSigns(source);
        String code = withoutComments(source);
        checkWords(code);
        checkMethods(code);
        System.out.println(wrong == 0 ? "the language is kept" : wrong + " rules are broken");
        if (wrong != 0) {
            System.exit(1);
        }
    }

    private static void check(boolean right, String what) {
        if (!right) {
            wrong++;
            System.out.println(what);
        }
    }

    private static void checkFace() throws ReflectiveOperationException {
        Class<BracketLetters> face = BracketLetters.class;
        check(Modifier.isPublic(face.getModifiers()) && Modifier.isFinal(face.getModifiers()), "the class is not public and final");
        Set<String> found = new TreeSet<>();
        for (Method method : face.getDeclaredMethods()) {
            if (!Modifier.isPrivate(method.getModifiers())) {
                List<String> types = new ArrayList<>();
                for (Class<?> type : method.getParameterTypes()) {
                    types.add(type.getName());
                }
                found.add(method.getName() + "(" + String.join(",", types) + ")");
                check(method.getReturnType() == int.class && Modifier.isPublic(method.getModifiers()), method + " is not of the face");
            }
        }
        check(found.equals(new TreeSet<>(List.of(FACE))), "the face is " + found);
        Constructor<?>[] constructors = face.getDeclaredConstructors();
        check(constructors.length == 1 && constructors[0].getParameterCount() == 2, "the constructor is another one");
        Set<String> constants = new HashSet<>();
        for (Field field : face.getDeclaredFields()) {
            if (!Modifier.isPrivate(field.getModifiers())) {
                constants.add(field.getName());
            }
        }
        check(constants.equals(new HashSet<>(List.of(CONSTANTS))), "the constants are " + constants);
        for (int i = 0; i < CONSTANTS.length; i++) {
            check(face.getField(CONSTANTS[i]).getInt(null) == VALUES[i], CONSTANTS[i] + " is another number");
        }
    }

    private static void checkClasses() {
        Set<String> names = new HashSet<>();
        for (String one : FACE) {
            names.add(one.substring(0, one.indexOf('(')));
        }
        Class<?>[] inside = BracketLetters.class.getDeclaredClasses();
        check(inside.length <= 11, "too many classes");
        for (Class<?> one : inside) {
            check(Modifier.isStatic(one.getModifiers()), one + " is not static");
            check(!Modifier.isPublic(one.getModifiers()) && !Modifier.isProtected(one.getModifiers()), one + " can be seen");
            for (Method method : one.getDeclaredMethods()) {
                check(!names.contains(method.getName()), method + " bears the name of a public one");
            }
            checkFields(one);
        }
        for (Method method : BracketLetters.class.getDeclaredMethods()) {
            check(Modifier.isPublic(method.getModifiers()) || !names.contains(method.getName()), method + " bears a public name");
        }
        checkFields(BracketLetters.class);
    }

    private static void checkFields(Class<?> one) {
        int own = 0;
        for (Field field : one.getDeclaredFields()) {
            boolean fixed = Modifier.isStatic(field.getModifiers());
            check(!fixed || Modifier.isFinal(field.getModifiers()), field + " is static and not final");
            own += fixed ? 0 : 1;
        }
        check(own <= 20, one + " has too many fields");
    }

    private static void checkSigns(String source) {
        for (char sign : source.toCharArray()) {
            check(sign == '\n' || sign >= 32 && sign < 127, "the sign " + (int) sign + " stands in the source");
        }
    }

    private static String withoutComments(String source) {
        String so = Pattern.compile("/\\*.*?\\*/", Pattern.DOTALL).matcher(source).replaceAll("");
        return so.replaceAll("//[^\n]*", "");
    }

    private static void checkWords(String code) {
        String[] none = {"\\b(throw|throws|try|catch|synchronized|assert|package|native|volatile|var)\\b", "->", "::",
            "\\bstatic\\s*\\{", "Exact\\b", "\\bdouble\\b|\\bfloat\\b", "\\b(System\\.(?!arraycopy))", "\\bRandom\\b", "\\bThread\\b",
            "\\.(hashCode|toString|equals|getClass)\\(", "\\bObject\\b", "\"", "\\bnew\\s+\\w+\\([^;]*\\)\\s*\\{"};
        for (String one : none) {
            Matcher found = Pattern.compile(one).matcher(code);
            check(!found.find(), "the source has " + one);
        }
        Matcher imported = Pattern.compile("import ([^;]+);").matcher(code);
        while (imported.find()) {
            check(imported.group(1).equals("java.util.Arrays"), "imports " + imported.group(1));
        }
        Matcher called = Pattern.compile("\\b(Math|Integer|Long|Arrays)\\.(\\w+)").matcher(code);
        Set<String> fine = Set.of("floorMod", "bitCount", "fill", "copyOf", "MIN_VALUE", "min", "max");
        while (called.find()) {
            check(fine.contains(called.group(2)), "calls " + called.group());
        }
    }

    /** Methods begin with 4 or 8 blanks and a name with parameters, and end with the same blanks and }. */
    private static void checkMethods(String code) {
        String[] lines = code.split("\n");
        Pattern head = Pattern.compile("( {4}| {8})(public |private |static |final )*[\\w\\[\\]]+ ?\\w*\\(([^)]*)\\) \\{");
        for (int i = 0; i < lines.length; i++) {
            Matcher found = head.matcher(lines[i]);
            if (found.matches() && !lines[i].matches(" *(if|for|while|switch) .*")) {
                int end = i;
                while (end < lines.length && !lines[end].equals(found.group(1) + "}")) {
                    end++;
                }
                check(end - i <= 60, "a long method: " + lines[i]);
                check(found.group(3).split(",").length <= 7, "many parameters: " + lines[i]);
            }
        }
    }
}
