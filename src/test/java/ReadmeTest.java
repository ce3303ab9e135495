import java.io.ByteArrayOutputStream;
import java.io.File;
import java.io.PrintStream;
import java.lang.reflect.Method;
import java.lang.reflect.Modifier;
import java.nio.charset.StandardCharsets;
import java.nio.file.Files;
import java.nio.file.Path;
import java.util.regex.Matcher;
import java.util.regex.Pattern;

/** What README.md says is so. */
public final class ReadmeTest {
    private static final Trial TRIAL = new Trial();

    public static void main(String[] args) throws Exception {
        String readme = Files.readString(Path.of("README.md"));
        String example = Files.readString(Path.of("src/test/java/Example.java"));
        TRIAL.about("README.md shows Example.java as it stands");
        TRIAL.due("the example", readme.contains("```java\n" + example + "```\n"), true);
        prints(example);
        calls(readme);
        tests(readme);
        texts();
        tape();
        TRIAL.end("ReadmeTest");
    }

    private static void prints(String example) {
        TRIAL.about("behind each // is what that line prints");
        PrintStream out = System.out;
        ByteArrayOutputStream bytes = new ByteArrayOutputStream();
        System.setOut(new PrintStream(bytes, true, StandardCharsets.ISO_8859_1));
        Example.main(new String[0]);
        System.setOut(out);
        String[] printed = bytes.toString(StandardCharsets.ISO_8859_1).split("\\R");
        Matcher m = Pattern.compile("println\\((.*)\\);\\s*// (-?\\w+)").matcher(example);
        int line = 0;
        while (m.find()) {
            TRIAL.due("the example's " + m.group(1), line < printed.length ? printed[line] : "nothing", m.group(2));
            line++;
        }
        TRIAL.due("how many lines it prints", printed.length, line);
    }

    private static void calls(String readme) {
        TRIAL.about("the table has every call with what it takes");
        for (Method m : FoolTrade.class.getDeclaredMethods()) {
            if (Modifier.isPublic(m.getModifiers())) {
                Matcher told = Pattern.compile("(?m)^\\|.*`" + m.getName() + "\\(([^)]*)\\)`.* \\| .* \\|$").matcher(readme);
                boolean found = told.find();
                TRIAL.due("a row of the table with " + m.getName(), found, true);
                String takes = found ? told.group(1) : "";
                TRIAL.due(m.getName() + " takes", takes.isEmpty() ? 0 : takes.split(",").length, m.getParameterCount());
            }
        }
    }

    private static void tests(String readme) {
        TRIAL.about("each test is told, and each one that is told is there");
        for (File f : new File("src/test/java").listFiles()) {
            if (f.getName().endsWith("Test.java")) {
                String name = f.getName().replace(".java", "");
                TRIAL.due("README.md tells " + name, readme.contains("`" + name + "`"), true);
            }
        }
        Matcher m = Pattern.compile("`(\\w+Test)[ `]").matcher(readme);
        while (m.find()) {
            TRIAL.due(m.group(1) + " is there", Files.exists(Path.of("src/test/java", m.group(1) + ".java")), true);
        }
    }

    private static void texts() {
        TRIAL.about("a rule that is not told is ..; without stays nobody stays");
        String people = "village a harvest 9 quarrel 2;village b harvest 8 quarrel 3;"
            + "person p of a wits 3 oath 2 cheer 6;person q of a wits 7 oath 5 cheer 1;person r of b wits 1 oath 4 cheer 8;";
        FoolTrade without = Trial.by(people);
        FoolTrade told = Trial.by(people + "sends 9-wits;goose wits < 5;does wits-4;fights quarrel;snow 0;");
        TRIAL.due("years(9) with those rules", told.years(9), without.years(9));
        TRIAL.due("all with those rules", View.of(told), View.of(without));
        TRIAL.due("who live away without stays", without.has(3), 0);
        TRIAL.about("first, last or often with a TEST, or total, most or least with a SUM");
        for (String verb : new String[] {"first", "last", "often"}) {
            TRIAL.due(verb, Trial.ask(told, verb + " all") != FoolTrade.NOTHING, true);
        }
        for (String verb : new String[] {"total", "most", "least"}) {
            TRIAL.due(verb, Trial.ask(told, verb + " wits") != FoolTrade.NOTHING, true);
        }
    }

    private static void tape() {
        TRIAL.about("the tape is empty then, even if the call is refused; it holds 1600 bytes at most");
        FoolTrade trade = new FoolTrade();
        for (int call = 0; call < 4; call++) {
            for (int n = 20; n <= 1600; n += 20) {
                TRIAL.due("feed", trade.feed(0, 0, 0, 0, 0), n);
            }
            TRIAL.due("feed of a full tape", trade.feed(0, 0, 0, 0, 0), FoolTrade.NONE);
            TRIAL.due("a refused call", take(trade, call), false);
            TRIAL.due("end(1) behind it", trade.end(1), false);
        }
    }

    private static boolean take(FoolTrade trade, int call) {
        switch (call) {
            case 0: return trade.treaty() != FoolTrade.NONE;
            case 1: return trade.ask() != FoolTrade.NOTHING;
            case 2: return trade.see() != FoolTrade.NONE;
            default: return trade.on();
        }
    }
}
