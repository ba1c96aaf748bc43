import java.io.IOException;
import java.nio.file.Files;
import java.nio.file.Path;
import java.util.regex.Matcher;
import java.util.regex.Pattern;

/** README.md's example answers what it says: the value behind each call, up to the first sign that is none. */
public final class ReadmeTest {
    private static final Path README = Path.of("README.md");
    private static final Pattern LINE =
        Pattern.compile("(?:int (\\w+) = )?ledger\\.(\\w+)\\(([^)]*)\\); +// (-?\\w+).*");

    private final EnergyLedger ledger = new EnergyLedger();
    private int roof = -1;
    private int flat = -1;

    public static void main(String[] args) throws IOException {
        String text = Files.readString(README);
        int first = text.indexOf("```java");
        String example = text.substring(first, text.indexOf("```", first + 3));
        ReadmeTest test = new ReadmeTest();
        int told = 0;
        for (String line : example.split("\n")) {
            Matcher matcher = LINE.matcher(line);
            if (matcher.matches()) {
                told++;
                test.line(matcher);
            }
        }
        Check.equal("calls in the example", told, 13);
        Check.end("ReadmeTest");
    }

    private void line(Matcher line) {
        String answer = call(line.group(2), line.group(3).isEmpty() ? new String[0] : line.group(3).split(", "));
        if ("roof".equals(line.group(1))) {
            roof = Integer.parseInt(answer);
        } else if ("flat".equals(line.group(1))) {
            flat = Integer.parseInt(answer);
        }
        Check.equal(line.group(), answer, line.group(4));
    }

    private String call(String name, String[] written) {
        switch (name) {
            case "addMember":
                return "" + ledger.addMember();
            case "setBattery":
                return "" + ledger.setBattery(number(written, 0), number(written, 1), number(written, 2));
            case "meter":
                return "" + ledger.meter(number(written, 0), number(written, 1), number(written, 2), number(written, 3));
            case "bestRule":
                return "" + ledger.bestRule(number(written, 0));
            case "close":
                return "" + ledger.close();
            case "flow":
                return "" + ledger.flow(number(written, 0), number(written, 1), number(written, 2));
            case "content":
                return "" + ledger.content();
            case "account":
                return "" + ledger.account(number(written, 0), Boolean.parseBoolean(written[1]));
            case "correct":
                return "" + ledger.correct(number(written, 0), number(written, 1), number(written, 2), number(written, 3));
            case "settle":
                return "" + ledger.settle(number(written, 0));
            case "pay":
                return "" + ledger.pay(number(written, 0), number(written, 1));
            default:
                return "a call that ReadmeTest does not know: " + name;
        }
    }

    private int number(String[] written, int place) {
        String word = written[place];
        return word.equals("roof") ? roof : word.equals("flat") ? flat : Integer.parseInt(word);
    }
}
