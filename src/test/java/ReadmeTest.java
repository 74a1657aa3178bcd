import java.io.IOException;
import java.nio.file.Files;
import java.nio.file.Path;
import java.util.regex.Matcher;
import java.util.regex.Pattern;

/** The example of README.md answers as it says there; the tests run at the project's root. */
final class ReadmeTest {
    private final String readme = Files.readString(Path.of("README.md"));
    private int told = 0;

    private ReadmeTest() throws IOException {
    }

    static void promise01To22TheExampleOfTheReadme() throws IOException {
        new ReadmeTest().follow(new ReelChanger());
    }

    private void follow(ReelChanger room) {
        same("makeReel(300)", room.makeReel(300));
        same("makeReel(200)", room.makeReel(200));
        same("splice(0, 250, 2)", room.splice(0, 250, 2));
        Due.write(room, "(01)x2");
        same("faultPosition()", room.faultPosition());
        same("setProgram()", room.setProgram());
        same("begin()", room.begin());
        same("pass(100)", room.pass(100));
        same("tell(3)", room.tell(3));
        same("forecast(0)", room.forecast(0));
        same("forecast(1)", room.forecast(1));
        same("darkWith(0, 50)", room.darkWith(0, 50));
        same("save(0)", room.save(0));
        same("pass(2000)", room.pass(2000));
        same("tell(1)", room.tell(1));
        same("restore(0)", room.restore(0));
        same("tell(1)", room.tell(1));
        Matcher more = nextCall();
        Due.due("calls of the example that are not followed", more.find(told) ? 1 : 0, 0);
    }

    /** The calls of the example stand line by line: "room.call(..);  // answer". */
    private Matcher nextCall() {
        return Pattern.compile("(?m)^room\\.(.*\\));\\s+// (-?\\d+)\\b").matcher(readme);
    }

    private void same(String call, int got) {
        Matcher next = nextCall();
        if (!next.find(told) || !next.group(1).equals(call)) {
            throw new AssertionError(call + " is not the next call of the example");
        }
        Due.due(call, got, Integer.parseInt(next.group(2)));
        told = next.end();
    }
}
