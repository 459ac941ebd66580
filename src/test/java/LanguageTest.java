import java.io.IOException;
import java.nio.file.Files;
import java.nio.file.Path;
import java.util.List;
import java.util.regex.Pattern;

/** What can be seen of LANGUAGE.md's rules in the lines of the source. It is run from the project's folder. */
public final class LanguageTest {
    private static final String[] RULED_OUT = {"\\bimport\\b", "\\bpackage\\b", "->", "::", "\\btry\\b", "\\bcatch\\b",
        "\\bfinally\\b", "\\bsynchronized\\b", "\\bassert\\b", "\\bvar\\b", "\\bthread\\b", "\\bSystem\\.(?!arraycopy)",
        "\\bMath\\.(?!max|min|abs|floorDiv|floorMod)", "\\bequals\\b", "\\bhashCode\\b", "\\btoString\\b",
        "\\bString\\b", "@"};
    private static final Pattern FIELD = Pattern.compile("^ +(private )?final .*= new .*;$");
    private static final Pattern THROWN = Pattern.compile(
        "throw new (IllegalState|IllegalArgument|IndexOutOfBounds)Exception\\(\"[^\"]*\"\\);");

    public static void main(String[] args) throws IOException {
        List<String> lines = Files.readAllLines(Path.of("src/main/java/CherryStation.java"));
        boolean isConstructor = false;
        for (int i = 0; i < lines.size(); i++) {
            String line = lines.get(i);
            String code = line.strip();
            if (code.startsWith("//") || code.startsWith("/**")) {
                continue;
            }
            if (code.startsWith("public CherryStation()")) {
                isConstructor = true;
            } else if (line.equals("    }")) {
                isConstructor = false;
            }
            checkLine(i + 1, line, isConstructor);
        }
        Checks.end();
    }

    private static void checkLine(int number, String line, boolean isConstructor) {
        String unquoted = line.replaceAll("\"[^\"]*\"", "\"\"");
        for (String ruledOut : RULED_OUT) {
            Checks.equal("line " + number + " has " + ruledOut, Pattern.compile(ruledOut).matcher(unquoted).find(),
                false);
        }
        if (unquoted.contains("throw ")) {
            Checks.equal("line " + number + " throws as rule 6 says", THROWN.matcher(line).find() && !isConstructor, true);
        } else if (unquoted.contains("new ")) {
            // Calls make nothing, so that what a run makes is what its constructors make.
            Checks.equal("line " + number + " makes only what is kept", isConstructor || FIELD.matcher(line).find(), true);
        }
    }
}
