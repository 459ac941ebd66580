import java.io.IOException;
import java.lang.reflect.Method;
import java.lang.reflect.Modifier;
import java.nio.file.Files;
import java.nio.file.Path;
import java.util.List;
import java.util.regex.Matcher;
import java.util.regex.Pattern;
import java.util.stream.Collectors;
import java.util.stream.Stream;

/** README.md: its example works, and it names every call, every `what` and every test. It is run from the project's folder. */
public final class ReadmeTest {
    private static final Path README = Path.of("README.md");
    private static final Path TESTS = Path.of("src/test/java");
    private static final Pattern EXAMPLE = Pattern.compile("```java\n(.*?)```", Pattern.DOTALL);

    public static void main(String[] args) throws IOException {
        String readme = Files.readString(README);
        exampleWorks();
        exampleIsThis(readme);
        callsAreNamed(readme);
        whatsAreTold(readme);
        testsAreNamed(readme);
        Checks.end();
    }

    private static void exampleWorks() {
        // The lines from here to the empty one are the README's.
        CherryStation station = new CherryStation();
        int farm = station.farm(18);
        station.label(farm, 3);
        int bed = station.bed(20);
        int basket = station.bring(farm, 120, 90);
        station.pulp(basket, 0);
        int hours = station.readyIn(0, 20);
        station.pass(hours, 20, 0);
        station.wash(0, bed, false);
        while (station.dryIn(bed, 30) > 0) {
            station.turn(bed);
            station.pass(9, 30, 0);
        }
        int lot = station.store(bed);
        station.cup(lot, 0);
        station.sell(lot, 40, true);

        Checks.equal("README: kilos without floaters", station.ofBasket(basket, 1), 114);
        Checks.equal("README: hours in the tank", hours, 12);
        Checks.equal("README: kilos of the lot, the half of 57", station.ofLot(lot, 0), 28);
        Checks.equal("README: its mould", station.ofLot(lot, 6), 0);
        // 68 and a height of 18, less 2, as 10 in 100 are unripe; it is dry, but not too dry.
        Checks.equal("README: its grade", station.ofLot(lot, 9), 84);
        // 28 kilos for 40, and 10 more for each as labelled: 1400, of which the farm gets 560 beside 570 for cherries.
        Checks.equal("README: coins", station.ofFarm(farm, 2), 570 + 560);
        Checks.equal("README: money", station.many(6), 840 - 570);
    }

    private static List<String> codeLines(String text) {
        return text.lines().map(line -> line.replaceAll("//.*", "").strip()).filter(line -> !line.isEmpty())
            .collect(Collectors.toList());
    }

    private static void exampleIsThis(String readme) throws IOException {
        Matcher example = EXAMPLE.matcher(readme);
        Checks.equal("README: has an example", example.find(), true);
        String source = Files.readString(TESTS.resolve("ReadmeTest.java"));
        int start = source.indexOf("CherryStation station = ");
        String own = source.substring(start, source.indexOf("\n\n", start));
        if (!codeLines(example.group(1)).equals(codeLines(own))) {
            Checks.complain("README: its example differs from the one that is run here");
        }
    }

    private static void callsAreNamed(String readme) {
        for (Method method : CherryStation.class.getDeclaredMethods()) {
            if (Modifier.isPublic(method.getModifiers())) {
                String row = "\\| `" + method.getName() + "\\((\\w+(, \\w+)*)?\\)` \\|";
                Matcher matcher = Pattern.compile(row).matcher(readme);
                Checks.equal("README: has a row of " + method.getName(), matcher.find(), true);
                String names = matcher.group(1);
                Checks.equal("README: arguments of " + method.getName(), names == null ? 0 : names.split(", ").length,
                    method.getParameterCount());
            }
        }
    }

    private static int toldOf(String readme, String call) {
        int start = readme.indexOf("| `" + call + "` | ");
        Checks.equal("README: has a row of " + call, start >= 0, true);
        String row = readme.substring(start, readme.indexOf('\n', start)).replaceAll("\\([^)]*\\)", "");
        return row.split(", ").length;
    }

    private interface Of {
        int ask(int what);
    }

    /** The last of what is told is answered, and one more is not. */
    private static void checkWhats(String readme, String call, Of of) {
        int told = toldOf(readme, call);
        of.ask(told - 1);
        boolean isRefused = false;
        try {
            of.ask(told);
        } catch (IllegalArgumentException e) {
            isRefused = true;
        }
        Checks.equal("README: " + call + " is told to the end", isRefused, true);
    }

    private static void whatsAreTold(String readme) {
        Station s = new Station();
        s.farm(20);
        s.bed(40);
        Checks.naturalLot(s, 0, 30, 0);
        checkWhats(readme, "ofFarm(farm, what)", what -> s.ofFarm(0, what));
        checkWhats(readme, "ofBasket(basket, what)", what -> s.ofBasket(0, what));
        checkWhats(readme, "ofTank(tank, what)", what -> s.ofTank(0, what));
        checkWhats(readme, "ofBed(bed, what)", what -> s.ofBed(0, what));
        checkWhats(readme, "ofLot(lot, what)", what -> s.ofLot(0, what));
        checkWhats(readme, "many(what)", s::many);
    }

    private static void testsAreNamed(String readme) throws IOException {
        try (Stream<Path> paths = Files.list(TESTS)) {
            for (Path path : paths.filter(each -> each.toString().endsWith("Test.java")).collect(Collectors.toList())) {
                String name = path.getFileName().toString().replace(".java", "");
                Checks.equal("README: names " + name, readme.contains("`" + name + "`"), true);
            }
        }
        Checks.equal("README: .ci/run can be run", Files.isExecutable(Path.of(".ci/run")), true);
        Checks.equal("README: says how to run the tests", readme.contains("    .ci/run\n"), true);
    }
}
