import java.io.IOException;
import java.nio.file.Files;
import java.nio.file.Path;

/** The examples of README.md: each line of them stands there, with the answer that the class gives. */
public final class ReadmeTest {
    private static String readme;

    public static void main(String[] args) throws IOException {
        readme = Files.readString(Path.of("README.md"));
        firstExample();
        secondExample();
        for (String call : "load reset step run nmi receive sent look register set setBreak clearBreak trace count".split(" ")) {
            Check.due("README.md tells of " + call, readme.contains("| `" + call + "("), true);
        }
        Check.due("README.md says how to run the tests", readme.contains("    .ci/run\n"), true);
        Check.end();
    }

    private static void firstExample() {
        BoardMachine machine = new BoardMachine();
        machine.load(0xC000, 0xA9418D10A0DBL, 6);
        machine.load(0xFFFC, 0x00C0, 2);
        machine.reset();
        told("BoardMachine machine = new BoardMachine();");
        told("machine.load(0xC000, 0xA9418D10A0DBL, 6);");
        told("machine.load(0xFFFC, 0x00C0, 2);");
        told("machine.reset();");
        answered("int why = machine.run(1000);", machine.run(1000), "2: it is stopped", 2);
        answered("int first = machine.sent(0);", machine.sent(0), "65", 65);
        answered("long cycles = machine.count(0);", machine.count(0), "9", 9);
    }

    private static void secondExample() {
        BoardMachine echo = new BoardMachine();
        echo.load(0xC000, 0xAD10A08D10A0DBL, 7);
        echo.set(5, 0xC000);
        told("BoardMachine echo = new BoardMachine();");
        told("echo.load(0xC000, 0xAD10A08D10A0DBL, 7);");
        told("echo.set(5, 0xC000);");
        answered("echo.setBreak(0xC003);", echo.setBreak(0xC003) ? 1 : 0, "true", 1);
        answered("int waiting = echo.receive(33);", echo.receive(33), "1", 1);
        answered("int at = echo.run(1000);", echo.run(1000), "1: PC is a break point", 1);
        answered("int a = echo.register(0);", echo.register(0), "33", 33);
        answered("int end = echo.run(1000);", echo.run(1000), "2: it is stopped", 2);
        answered("int back = echo.sent(0);", echo.sent(0), "33", 33);
        answered("int oldest = echo.trace(0);", echo.trace(0), "0xC000", 0xC000);
    }

    private static void told(String line) {
        Check.due("README.md holds " + line, readme.contains("\n" + line), true);
    }

    /** A line of an example, behind which its answer is told. */
    private static void answered(String line, long got, String words, long want) {
        Check.due(line, got, want);
        int at = readme.indexOf("\n" + line);
        int end = readme.indexOf('\n', at + 1);
        String behind = at < 0 || end < 0 ? "" : readme.substring(at + 1 + line.length(), end).strip();
        Check.due("README.md answers " + line + " with " + behind, behind.equals("// " + words), true);
    }
}
