import java.io.IOException;
import java.nio.file.Files;
import java.nio.file.Path;
import java.util.List;

/** The example of README.md: its calls, in their order, and the answers that it tells. */
public final class ReadmeTest {
    private static final Checks CHECKS = new Checks("ReadmeTest");
    private static int line = 0;

    private ReadmeTest() {
    }

    public static void main(String[] args) throws IOException {
        List<String> lines = Files.readAllLines(Path.of("README.md"));
        CheapProofs x = new CheapProofs();
        Checks.typeAll(x, gameOf(lines));
        told(lines, "x.readGame();", x.readGame());
        told(lines, "x.position(0, 6);", x.position(0, 6));
        told(lines, "x.position(0, 7);", x.position(0, 7));
        told(lines, "x.guess(1, 1, 4);", x.guess(1, 1, 4));
        told(lines, "x.begin(0);", x.begin(0));
        told(lines, "x.open(1);", x.open(1));
        told(lines, "x.way(1);", x.way(1));
        told(lines, "x.open(100);", x.open(100));
        told(lines, "x.count(4);", x.count(4));
        told(lines, "x.playOut(0, 1);", x.playOut(0, 1));
        told(lines, "x.proofSize();", x.proofSize());
        told(lines, "x.undo();", x.undo());
        told(lines, "x.count(4);", x.count(4));
        told(lines, "x.keep();", x.keep());
        told(lines, "x.addMove(3, 0);", x.addMove(3, 0));
        told(lines, "x.restore();", x.restore());
        told(lines, "x.open(101);", x.open(101));
        line = next(lines);
        CHECKS.due("calls of the example that are not made here", line < lines.size() ? 1 : 0, 0);
        CHECKS.end();
    }

    private static String gameOf(List<String> lines) {
        for (String s : lines) {
            if (s.startsWith("String game = \"")) {
                return s.split("\"")[1];
            }
        }
        return "";
    }

    /** The next line that is a call whose answer is told. */
    private static int next(List<String> lines) {
        int at = line;
        while (at < lines.size() && !lines.get(at).startsWith("x.")) {
            at++;
        }
        return at;
    }

    private static void told(List<String> lines, String call, int got) {
        int at = next(lines);
        String s = at < lines.size() ? lines.get(at) : "";
        CHECKS.due("the line of " + call, s.startsWith(call + " ") ? 1 : 0, 1);
        CHECKS.due(call + " told by: " + s, s.contains("// " + got + ": ") ? 1 : 0, 1);
        line = at + 1;
    }
}
