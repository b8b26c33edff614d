import java.io.IOException;
import java.lang.reflect.InvocationTargetException;
import java.lang.reflect.Method;
import java.nio.file.Files;
import java.nio.file.Path;
import java.util.ArrayList;
import java.util.HashMap;
import java.util.List;
import java.util.Map;
import java.util.regex.Matcher;
import java.util.regex.Pattern;

/** What README.md says holds: its face is the document's, its example and its commands work. */
public final class ReadmeTest {
    private static final Due DUE = new Due();
    private static final String ALL_TESTS = ".ci/run";
    private static final Pattern CALL =
            Pattern.compile("(?:int (\\w+) = )?x\\.(\\w+)\\((.*?)\\); *// (?:(-?\\d+)\\b)?.*");

    public static void main(String[] args) throws IOException, InterruptedException {
        String readme = Files.readString(Path.of("README.md"));
        List<String> java = blocks(readme, "java");
        DUE.is("blocks of Java in README.md", java.size(), 2);
        if (java.size() == 2) {
            face(java.get(0));
            example(java.get(1));
        }
        commands(blocks(readme, "sh"));
        DUE.end();
    }

    private static List<String> blocks(String text, String language) {
        List<String> found = new ArrayList<>();
        Matcher block = Pattern.compile("(?s)```" + language + "\n(.*?)```").matcher(text);
        while (block.find()) {
            found.add(block.group(1).strip());
        }
        return found;
    }

    private static void face(String written) throws IOException {
        DUE.sentence("## The public face");
        String document = Files.readString(Path.of("..", "shared", "DOC.md"));
        DUE.alike("the face in README.md", written, blocks(document, "java").get(0));
    }

    /** Each line is done as it stands; where its comment begins with a number, this is due. */
    private static void example(String written) {
        BoundCode x = new BoundCode();
        Map<String, Long> names = new HashMap<>();
        String[] lines = written.split("\n+");
        DUE.alike("the first line", lines[0], "BoundCode x = new BoundCode();");
        for (int k = 1; k < lines.length; k++) {
            Matcher line = CALL.matcher(lines[k]);
            if (!line.matches()) {
                DUE.tell("this line of README.md is no call: " + lines[k]);
                continue;
            }
            String answer = answer(x, line.group(2), line.group(3), names);
            if (line.group(1) != null) {
                names.put(line.group(1), Long.valueOf(answer));
            }
            if (line.group(4) != null) {
                DUE.alike(lines[k], answer, line.group(4));
            }
        }
    }

    private static String answer(BoundCode x, String name, String args, Map<String, Long> names) {
        String[] texts = args.isEmpty() ? new String[0] : args.split(", ");
        for (Method m : BoundCode.class.getMethods()) {
            if (m.getName().equals(name) && m.getParameterCount() == texts.length) {
                Object[] values = new Object[texts.length];
                for (int k = 0; k < values.length; k++) {
                    Long value = names.get(texts[k]);
                    long v = value != null ? value : Long.parseLong(texts[k]);
                    values[k] = m.getParameterTypes()[k] == int.class ? (Object) (int) v : v;
                }
                return answer(x, m, values);
            }
        }
        return "no such method";
    }

    private static String answer(BoundCode x, Method m, Object[] values) {
        try {
            return m.invoke(x, values).toString();
        } catch (InvocationTargetException thrown) {
            return thrown.getCause().getClass().getName();
        } catch (IllegalAccessException hidden) {
            return "it is hidden";
        }
    }

    /** .ci/run is not run here, since it runs this test. */
    private static void commands(List<String> blocks) throws IOException, InterruptedException {
        DUE.is("README.md names .ci/run", blocks.contains(ALL_TESTS) ? 1 : 0, 1);
        DUE.is(".ci/run can be run", Files.isExecutable(Path.of(ALL_TESTS)) ? 1 : 0, 1);
        DUE.is("blocks of commands in README.md", blocks.size(), 3);
        for (String block : blocks) {
            if (!block.equals(ALL_TESTS)) {
                DUE.is(block, exitOf(block), 0);
            }
        }
    }

    /** Its output goes through a file: it is shown only where the command fails. */
    private static int exitOf(String commands) throws IOException, InterruptedException {
        Path output = Files.createTempFile("readme", ".txt");
        ProcessBuilder shell = new ProcessBuilder("sh", "-e", "-c", commands);
        shell.redirectErrorStream(true).redirectOutput(output.toFile());
        int exit = shell.start().waitFor();
        if (exit != 0) {
            System.out.println(Files.readString(output));
        }
        Files.delete(output);
        return exit;
    }
}
