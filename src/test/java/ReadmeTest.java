import java.io.File;
import java.io.IOException;
import java.lang.reflect.Method;
import java.lang.reflect.Modifier;
import java.nio.file.Files;
import java.nio.file.Path;
import java.util.ArrayList;
import java.util.List;
import java.util.Set;
import java.util.TreeSet;
import java.util.regex.Matcher;
import java.util.regex.Pattern;

/** What README.md shows is so; it is run from the project's folder, as .ci/run does. */
public final class ReadmeTest {
    private static final Pattern BLOCK = Pattern.compile("^```(\\w+)\n(.*?)^```$", Pattern.MULTILINE | Pattern.DOTALL);
    private static final Pattern NEW = Pattern.compile("SundayMarket x = new SundayMarket\\(\\);");
    private static final Pattern TEXT =
        Pattern.compile("for \\(char letter : \"(.*)\"\\.toCharArray\\(\\)\\) x\\.type\\(letter\\);");
    private static final Pattern CALL = Pattern.compile("x\\.(\\w+)\\((.*)\\); +// (-?\\d+|[A-Z]+)(?:: .*)?");

    private SundayMarket x;
    private final Set<String> shown = new TreeSet<>();

    public static void main(String[] args) throws IOException, InterruptedException {
        String page = Files.readString(Path.of("README.md"));
        program(blocks(page, "java").get(0), blocks(page, "text").get(0));
        ReadmeTest test = new ReadmeTest();
        for (String block : blocks(page, "java").subList(1, blocks(page, "java").size())) {
            block.lines().forEach(test::line);
        }
        Due.same("the calls shown", test.shown.toString(), face().toString());
        tests(page);
        Due.end();
    }

    private static List<String> blocks(String page, String language) {
        List<String> blocks = new ArrayList<>();
        Matcher matcher = BLOCK.matcher(page);
        while (matcher.find()) {
            if (matcher.group(1).equals(language)) {
                blocks.add(matcher.group(2));
            }
        }
        return blocks;
    }

    private static void program(String program, String output) throws IOException, InterruptedException {
        Path folder = Files.createTempDirectory("mine");
        Path file = Files.writeString(folder.resolve("Mine.java"), program);
        String out = folder.resolve("out").toString();
        Due.same("javac", said("javac", "-d", out, "src/main/java/SundayMarket.java", file.toString()), "");
        Due.same("the program's output", said("java", "-cp", out, "Mine"), output);
        wipe(folder.toFile());
    }

    private static String said(String... command) throws IOException, InterruptedException {
        Process process = new ProcessBuilder(command).redirectErrorStream(true).start();
        String said = new String(process.getInputStream().readAllBytes());
        Due.due(command[0] + " ends with", process.waitFor(), 0);
        return said;
    }

    private static void wipe(File file) {
        File[] parts = file.listFiles();
        for (File part : parts == null ? new File[0] : parts) {
            wipe(part);
        }
        file.delete();
    }

    private void line(String line) {
        Matcher text = TEXT.matcher(line);
        Matcher call = CALL.matcher(line);
        if (NEW.matcher(line).matches()) {
            x = new SundayMarket();
        } else if (text.matches()) {
            shown.add("type");
            for (char letter : text.group(1).toCharArray()) {
                x.type(letter);
            }
        } else if (call.matches()) {
            shown.add(call.group(1));
            String told = call.group(1) + " " + call.group(2).replace(",", "");
            Due.due("README.md: " + line, Run.call(x, told.strip()), Run.answer(call.group(3)));
        } else {
            Due.same("README.md", line, "a line that this test can run");
        }
    }

    private static Set<String> face() {
        Set<String> names = new TreeSet<>();
        for (Method method : SundayMarket.class.getDeclaredMethods()) {
            if (Modifier.isPublic(method.getModifiers())) {
                names.add(method.getName());
            }
        }
        return names;
    }

    private static void tests(String page) {
        for (String name : new File("src/test/java").list()) {
            if (name.endsWith("Test.java")) {
                String test = "`" + name.replace(".java", "") + "`";
                Due.due("README.md names " + test, page.contains(test) ? 1 : 0, 1);
            }
        }
    }
}
