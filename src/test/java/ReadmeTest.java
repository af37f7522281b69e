import java.io.IOException;
import java.nio.file.Files;
import java.nio.file.Path;
import java.util.ArrayList;
import java.util.List;
import java.util.regex.Matcher;
import java.util.regex.Pattern;

/** Follows the example of README.md word for word: its program, run by its commands, prints what it says. */
public final class ReadmeTest {
    private static final Pattern BLOCK = Pattern.compile("```(\\w+)\n(.*?)```\n", Pattern.DOTALL);

    /** The texts of all blocks of one language. */
    private static List<String> blocks(String page, String language) {
        List<String> found = new ArrayList<>();
        Matcher block = BLOCK.matcher(page);
        while (block.find()) {
            if (block.group(1).equals(language)) {
                found.add(block.group(2));
            }
        }
        return found;
    }

    /** What the commands print; what they say of errors is shown as it comes. */
    private static String printed(String commands) throws IOException, InterruptedException {
        Process process = new ProcessBuilder("sh", "-e", "-c", commands)
                .redirectError(ProcessBuilder.Redirect.INHERIT).start();
        String text = new String(process.getInputStream().readAllBytes());
        int code = process.waitFor();
        return code == 0 ? text : text + "exit code " + code;
    }

    private static void delete(Path path) throws IOException {
        if (Files.isDirectory(path)) {
            try (var inside = Files.list(path)) {
                for (Path one : inside.toList()) {
                    delete(one);
                }
            }
        }
        Files.delete(path);
    }

    public static void main(String[] args) throws IOException, InterruptedException {
        String page = Files.readString(Path.of("README.md"));
        // Only the folder is another one than README.md says, so that runs at the same time do not meet.
        Path folder = Files.createTempDirectory("readme");
        Files.writeString(folder.resolve("Example.java"), blocks(page, "java").get(0));
        String commands = blocks(page, "sh").get(0).replace("/tmp", folder.toString());
        Checks.same("the example of README.md", printed(commands), blocks(page, "text").get(0));
        delete(folder);
        Checks.end();
    }
}
