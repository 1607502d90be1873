import java.io.IOException;
import java.nio.file.Files;
import java.nio.file.Path;
import java.util.List;

/** Some rules of ../shared/LANGUAGE.md that can be seen in the lines of the program itself. */
public final class LanguageTest {
    private static final String PROGRAM = "src/main/java/BoilerCascade.java";
    private static final String[] RULED_OUT = {"import ", "package ", "->", "::", "try ", "catch", "finally",
        "synchronized", "assert ", "static {", "System.", "Thread", "double", "float", "String.format", "Exact(",
        "_VALUE"};

    public static void main(String[] args) throws IOException {
        List<String> lines = Files.readAllLines(Path.of(PROGRAM));
        int methodBegan = -1;
        for (int n = 0; n < lines.size(); n++) {
            String line = lines.get(n);
            String code = line.strip();
            String at = "line " + (n + 1) + " (" + code + ")";
            for (int k = 0; k < line.length(); k++) {
                Check.due(at + " has a sign beyond 126", line.charAt(k) > 126 ? 1 : 0, 0);
            }
            if (code.startsWith("*") || code.startsWith("/")) {
                continue;
            }
            for (String word : RULED_OUT) {
                Check.due(at + " has " + word, code.contains(word) ? 1 : 0, 0);
            }
            if (code.endsWith(") {") && !code.startsWith("}") && line.matches("( {4}){1,2}[a-zA-Z].*")
                    && !code.matches("(if|for|while|switch) .*") || code.contains(" throws ")) {
                methodBegan = n;
            }
            if (methodBegan >= 0) {
                Check.due(at + " is beyond sixty lines of its method", n - methodBegan > 60 ? 1 : 0, 0);
            }
            if (code.contains("new ")) {
                Check.due(at + " makes an object in a call", isMadeOnce(code) ? 1 : 0, 1);
            }
        }
        Check.end("LanguageTest");
    }

    /** In a field, or in the loop of a constructor that fills a row, or an exception that is thrown. */
    private static boolean isMadeOnce(String code) {
        return code.startsWith("throw new ") || code.matches("(private )?final .* = new .*;")
                || code.equals("boilers[i] = new Boiler();") || code.equals("states[k] = new Plant();");
    }
}
