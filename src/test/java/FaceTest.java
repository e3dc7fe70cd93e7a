import java.io.IOException;
import java.lang.reflect.Constructor;
import java.lang.reflect.Field;
import java.lang.reflect.Method;
import java.lang.reflect.Modifier;
import java.nio.file.Files;
import java.nio.file.Path;
import java.util.ArrayList;
import java.util.List;
import java.util.TreeMap;
import java.util.TreeSet;
import java.util.regex.Matcher;
import java.util.regex.Pattern;

/** The public face, the constants, and the rules of LANGUAGE.md that can be seen from the words of the source. */
public final class FaceTest {
    private static final Checks CHECKS = new Checks("FaceTest");
    private static final String[] METHODS = {"setPosition(int,int,int)", "guess(int,int,int)", "addMove(int,int)",
        "removeMove(int,int)", "readGame()", "begin(int)", "open(int)", "type(char)", "clearText()", "undo()", "keep()",
        "restore()", "position(int,int)", "move(int,int)", "node(int,int)", "way(int)", "playOut(int,int)",
        "proofSize()", "count(int)"};

    private FaceTest() {
    }

    public static void main(String[] args) throws IOException, IllegalAccessException {
        constants();
        members();
        String source = Files.readString(Path.of("src/main/java/CheapProofs.java"));
        String code = source.replaceAll("(?s)/\\*.*?\\*/", "").replaceAll("//[^\n]*", "");
        words(code);
        library(code);
        lengths(code);
        signs(source);
        CHECKS.end();
    }

    private static void constants() throws IllegalAccessException {
        TreeMap<String, Integer> found = new TreeMap<>();
        for (Field field : CheapProofs.class.getDeclaredFields()) {
            if (!Modifier.isPrivate(field.getModifiers())) {
                CHECKS.due(field.getName() + " is a constant", field.getModifiers(),
                    Modifier.PUBLIC | Modifier.STATIC | Modifier.FINAL);
                found.put(field.getName(), field.getInt(null));
            }
        }
        String wants = "{BAD_VALUE=-2, FULL=-3, NONE=-5, NOT_POSSIBLE=-4, UNKNOWN=-1}";
        CHECKS.due("constants " + found, found.toString().equals(wants) ? 1 : 0, 1);
    }

    private static void members() {
        CHECKS.due("class is public and final", CheapProofs.class.getModifiers(), Modifier.PUBLIC | Modifier.FINAL);
        Constructor<?>[] constructors = CheapProofs.class.getDeclaredConstructors();
        CHECKS.due("one constructor", constructors.length, 1);
        CHECKS.due("without parameters", constructors[0].getParameterCount(), 0);
        CHECKS.due("it is public", constructors[0].getModifiers(), Modifier.PUBLIC);
        TreeSet<String> found = new TreeSet<>();
        List<String> publicNames = new ArrayList<>();
        List<String> otherNames = new ArrayList<>();
        for (Method method : CheapProofs.class.getDeclaredMethods()) {
            if (Modifier.isPrivate(method.getModifiers())) {
                otherNames.add(method.getName());
                continue;
            }
            publicNames.add(method.getName());
            StringBuilder s = new StringBuilder();
            for (Class<?> type : method.getParameterTypes()) {
                s.append(s.length() == 0 ? "" : ",").append(type.getName());
            }
            found.add(method.getName() + "(" + s + ")");
            CHECKS.due(method.getName() + " is public", method.getModifiers(), Modifier.PUBLIC);
            CHECKS.due(method.getName() + " answers int", method.getReturnType() == int.class ? 1 : 0, 1);
        }
        CHECKS.due("methods " + found, found.equals(new TreeSet<>(List.of(METHODS))) ? 1 : 0, 1);
        otherNames.retainAll(publicNames);
        CHECKS.due("private names that are public " + otherNames, otherNames.size(), 0);
        for (Class<?> inside : CheapProofs.class.getDeclaredClasses()) {
            CHECKS.due(inside.getName() + " is static", Modifier.isStatic(inside.getModifiers()) ? 1 : 0, 1);
            CHECKS.due(inside.getName() + " is not public",
                inside.getModifiers() & (Modifier.PUBLIC | Modifier.PROTECTED), 0);
            fields(inside);
        }
        fields(CheapProofs.class);
        CHECKS.due("at most twelve classes", CheapProofs.class.getDeclaredClasses().length < 12 ? 1 : 0, 1);
    }

    /** Rules 5 and 11: static fields are final, and a class has some twenty others. */
    private static void fields(Class<?> owner) {
        int own = 0;
        for (Field field : owner.getDeclaredFields()) {
            if (Modifier.isStatic(field.getModifiers())) {
                CHECKS.due(field + " is final", Modifier.isFinal(field.getModifiers()) ? 1 : 0, 1);
            } else {
                own++;
            }
        }
        CHECKS.due("fields of " + owner.getName(), own <= 20 ? 1 : 0, 1);
    }

    private static void words(String code) {
        String[] refused = {"throw", "throws", "try", "catch", "synchronized", "assert", "import", "package", "var", "->",
            "::", "Object", "Random", "hashCode", "toString", "Exception", "Override"};
        for (String word : refused) {
            boolean isName = Character.isLetter(word.charAt(0));
            Matcher m = Pattern.compile(isName ? "\\b" + word + "\\b" : word).matcher(code);
            int count = 0;
            while (m.find()) {
                count++;
            }
            CHECKS.due("how often the source has " + word, count, 0);
        }
    }

    /** Rules 3 and 4: each type is one of the class's own, and each function of the library is one that it may use. */
    private static void library(String code) {
        TreeSet<String> known = new TreeSet<>(List.of("CheapProofs", "Math.max", "Math.min", "System.arraycopy"));
        for (Class<?> inside : CheapProofs.class.getDeclaredClasses()) {
            known.add(inside.getSimpleName());
        }
        Matcher m = Pattern.compile("\\b[A-Z]\\w*[a-z]\\w*(\\.[a-z]\\w*)?").matcher(code);
        TreeSet<String> strange = new TreeSet<>();
        while (m.find()) {
            strange.add(m.group());
        }
        strange.removeAll(known);
        CHECKS.due("names of the library " + strange, strange.size(), 0);
    }

    /** Rule 11: a method has at most sixty lines. */
    private static void lengths(String code) {
        Matcher m = Pattern.compile("(?ms)^( {4}| {8})\\w[^\n;=]*\\) \\{\n.*?^\\1\\}$").matcher(code);
        int methods = 0;
        while (m.find()) {
            methods++;
            int lines = (int) m.group().lines().count();
            CHECKS.due("lines of " + m.group().lines().findFirst().orElse(""), lines <= 60 ? 1 : 0, 1);
        }
        CHECKS.due("methods are found", methods > METHODS.length ? 1 : 0, 1);
    }

    private static void signs(String source) {
        int strange = 0;
        for (int i = 0; i < source.length(); i++) {
            char sign = source.charAt(i);
            strange += sign == '\n' || sign >= 32 && sign < 127 ? 0 : 1;
        }
        CHECKS.due("strange signs in the source", strange, 0);
    }
}
