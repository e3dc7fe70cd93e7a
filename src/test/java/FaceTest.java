import java.io.IOException;
import java.lang.reflect.Constructor;
import java.lang.reflect.Field;
import java.lang.reflect.Method;
import java.lang.reflect.Modifier;
import java.nio.file.Files;
import java.nio.file.Path;
import java.util.ArrayList;
import java.util.List;
import java.util.TreeMap;
import java.util.TreeSet;
import java.util.regex.Matcher;
import java.util.regex.Pattern;

/** The public face, the constants, and the rules of LANGUAGE.md that can be seen from the words of the source. */
public final class FaceTest {
    private static final Checks CHECKS = new Checks("FaceTest");
    private static final String[] METHODS = {"setPosition(int,int,int)", "guess(int,int,int)", "addMove(int,int)",
        "removeMove(int,int)", "readGame()", "begin(int)", "open(int)", "type(char)", "clearText()", "undo()", "keep()",
        "restore()", "position(int,int)", "move(int,int)", "node(int,int)", "way(int)", "playOut(int,int)",
        "proofSize()", "count(int)"};

    private FaceTest() {
    }

    public static void main(String[] args) throws IOException, IllegalAccessException {
        constants();
        members();
        String source = Files.readString(Path.of("src/main/java/CheapProofs.java"));
        String code = source.replaceAll("(?s)/\\*.*?\\*/", "").replaceAll("//[^\n]*", "");
        words(code);
        signs(source);
        CHECKS.end();
    }

    private static void constants() throws IllegalAccessException {
        TreeMap<String, Integer> found = new TreeMap<>();
        for (Field field : CheapProofs.class.getDeclaredFields()) {
            if (!Modifier.isPrivate(field.getModifiers())) {
                CHECKS.due(field.getName() + " is a constant", field.getModifiers(),
                    Modifier.PUBLIC | Modifier.STATIC | Modifier.FINAL);
                found.put(field.getName(), field.getInt(null));
            }
            if (Modifier.isStatic(field.getModifiers())) {
                CHECKS.due(field.getName() + " is final", Modifier.isFinal(field.getModifiers()) ? 1 : 0, 1);
            }
        }
        String wants = "{BAD_VALUE=-2, FULL=-3, NONE=-5, NOT_POSSIBLE=-4, UNKNOWN=-1}";
        CHECKS.due("constants " + found, found.toString().equals(wants) ? 1 : 0, 1);
    }

    private static void members() {
        CHECKS.due("class is public and final", CheapProofs.class.getModifiers(), Modifier.PUBLIC | Modifier.FINAL);
        Constructor<?>[] constructors = CheapProofs.class.getDeclaredConstructors();
        CHECKS.due("one constructor", constructors.length, 1);
        CHECKS.due("without parameters", constructors[0].getParameterCount(), 0);
        CHECKS.due("it is public", constructors[0].getModifiers(), Modifier.PUBLIC);
        TreeSet<String> found = new TreeSet<>();
        List<String> publicNames = new ArrayList<>();
        List<String> otherNames = new ArrayList<>();
        for (Method method : CheapProofs.class.getDeclaredMethods()) {
            if (Modifier.isPrivate(method.getModifiers())) {
                otherNames.add(method.getName());
                continue;
            }
            publicNames.add(method.getName());
            StringBuilder s = new StringBuilder();
            for (Class<?> type : method.getParameterTypes()) {
                s.append(s.length() == 0 ? "" : ",").append(type.getName());
            }
            found.add(method.getName() + "(" + s + ")");
            CHECKS.due(method.getName() + " is public", method.getModifiers(), Modifier.PUBLIC);
            CHECKS.due(method.getName() + " answers int", method.getReturnType() == int.class ? 1 : 0, 1);
        }
        CHECKS.due("methods " + found, found.equals(new TreeSet<>(List.of(METHODS))) ? 1 : 0, 1);
        otherNames.retainAll(publicNames);
        CHECKS.due("private names that are public " + otherNames, otherNames.size(), 0);
        for (Class<?> inside : CheapProofs.class.getDeclaredClasses()) {
            CHECKS.due(inside.getName() + " is static", Modifier.isStatic(inside.getModifiers()) ? 1 : 0, 1);
            CHECKS.due(inside.getName() + " is not public",
                inside.getModifiers() & (Modifier.PUBLIC | Modifier.PROTECTED), 0);
        }
    }

    private static void words(String code) {
        String[] refused = {"throw", "throws", "try", "catch", "synchronized", "assert", "import", "package", "var", "->",
            "::", "Object", "Random", "hashCode", "toString", "Exception", "Override"};
        for (String word : refused) {
            boolean isName = Character.isLetter(word.charAt(0));
            Matcher m = Pattern.compile(isName ? "\\b" + word + "\\b" : word).matcher(code);
            int count = 0;
            while (m.find()) {
                count++;
            }
            CHECKS.due("how often the source has " + word, count, 0);
        }
    }

    private static void signs(String source) {
        int strange = 0;
        for (int i = 0; i < source.length(); i++) {
            char sign = source.charAt(i);
            strange += sign == '\n' || sign >= 32 && sign < 127 ? 0 : 1;
        }
        CHECKS.due("strange signs in the source", strange, 0);
    }
}
