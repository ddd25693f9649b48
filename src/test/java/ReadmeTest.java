import java.io.IOException;
import java.nio.charset.StandardCharsets;
import java.nio.file.Files;
import java.nio.file.Path;
import java.util.regex.Matcher;
import java.util.regex.Pattern;

/** README.md, read from the folder that .ci/run runs the tests in, against the class and the document's face. */
public final class ReadmeTest {
    private static final Pattern METHOD = Pattern.compile("    public (\\w+ \\w+\\(.*\\))(?: throws (.*))?;");
    private static final Pattern EXCEPTION = Pattern.compile("\\w+Exception");
    private static String readme;

    public static void main(String[] args) throws IOException {
        readme = Files.readString(Path.of("README.md"), StandardCharsets.UTF_8);
        theExampleAnswersWhatItSays();
        everyMethodOfTheFaceIsTold(Files.readString(Path.of("../shared/DOC.md"), StandardCharsets.UTF_8));
        Check.end();
    }

    private static void theExampleAnswersWhatItSays() {
        PinholeHouse house = new PinholeHouse();
        says("addRoom(20, 3, 5)", house.addRoom(20, 3, 5));
        says("pass(10, 2, 6, 9)", house.pass(10, 2, 6, 9));
        says("setLight(0, 60, 2)", house.setLight(0, 60, 2));
        says("seat(0, 2)", house.seat(0, 2));
        says("bright(0, 0)", house.bright(0, 0));
        says("wall(0, 10)", house.wall(0, 10));
        says("room(0, 6)", house.room(0, 6));
        says("when(0)", house.when(0));
        says("advise(0, 60)", house.advise(0, 60));
        says("seen(0)", house.seen(0));
        says("foresee(30, 0)", house.foresee(30, 0));
        says("go(30)", house.go(30));
        says("passer(0, 0)", house.passer(0, 0));
        says("count(7)", house.count(7));
        says("mean()", house.mean());
        Check.due("calls in the example", 15, readme.split("\nhouse\\.").length - 1);
    }

    /** A line of the example is the call, a remark's two strokes, and the answer before anything else. */
    private static void says(String call, Object answer) {
        String line = "\nhouse\\." + Pattern.quote(call) + "; +// " + Pattern.quote("" + answer) + "[,: ]";
        if (!Pattern.compile(line).matcher(readme).find()) {
            Check.wrong("README.md does not say that " + call + " answers " + answer);
        }
    }

    private static void everyMethodOfTheFaceIsTold(String document) {
        int methods = 0;
        for (String line : document.split("\n")) {
            Matcher method = METHOD.matcher(line);
            if (method.matches()) {
                methods++;
                isTold(method.group(1), method.group(2) == null ? "" : method.group(2));
            }
        }
        Check.due("methods of the face", 18, methods);
    }

    private static void isTold(String signature, String exceptions) {
        int at = readme.indexOf("\n`" + signature + "`: ");
        if (at < 0) {
            Check.wrong("README.md does not tell " + signature);
        } else if (!exceptionsIn(toldFrom(at + 1)).equals(exceptions)) {
            Check.wrong("README.md does not tell " + signature + " with the exceptions " + exceptions);
        }
    }

    /** What stands from a method's line to the next method or heading. */
    private static String toldFrom(int at) {
        return readme.substring(at).split("\n[`#]", 2)[0];
    }

    private static String exceptionsIn(String told) {
        StringBuilder found = new StringBuilder();
        Matcher exception = EXCEPTION.matcher(told);
        while (exception.find()) {
            found.append(found.length() == 0 ? "" : ", ").append(exception.group());
        }
        return found.toString();
    }
}
