import java.util.Arrays;
import java.util.List;

/** Writes METHODS as lines of text, so that tests can be read. */
final class Code {
    static final List<String> NAMES = Arrays.asList("PUSH", "POP", "DUP", "SWAP", "ADD", "SUB",
            "MUL", "LESS", "DIV", "LOAD", "STORE", "OVER", "JUMP", "IFNOT", "LOOP", "END", "CALL",
            "RETURN");

    private Code() {
    }

    /** A new METHOD with these INSTRUCTIONS, parted by commas; answers its number. */
    static int method(BoundCode x, int arguments, int results, int locals, String lines) {
        int method = x.method(arguments, results, locals);
        append(x, method, lines);
        return method;
    }

    /** One without ARGUMENTS, RESULTS and LOCALS. */
    static int plain(BoundCode x, String lines) {
        return method(x, 0, 0, 0, lines);
    }

    static void append(BoundCode x, int method, String lines) {
        if (lines.isBlank()) {
            return;
        }
        for (String line : lines.split(",")) {
            String[] parts = line.trim().split(" +");
            long arg = parts.length > 1 ? Long.parseLong(parts[1]) : 0;
            x.add(method, operation(parts[0]), arg);
        }
    }

    /** Many times the same lines. */
    static String times(int n, String lines) {
        String[] all = new String[n];
        Arrays.fill(all, lines);
        return String.join(",", all);
    }

    static int operation(String name) {
        int found = NAMES.indexOf(name);
        return found >= 0 ? found : Integer.parseInt(name);
    }

    static int run(BoundCode x, int method, int most, long... words) {
        for (long word : words) {
            x.argument(word);
        }
        return x.run(method, most);
    }
}
