import java.io.IOException;
import java.nio.file.Files;
import java.nio.file.Path;
import java.util.List;

/** README's example: its lines stand here too, and answer what README tells behind them. */
public final class ReadmeTest {
    private static final Bench bench = new Bench();
    private static List<String> lines;

    public static void main(String[] args) throws IOException {
        lines = Files.readAllLines(Path.of("README.md"));
        bench.sentence("README's example");
        PulseParts x = new PulseParts();
        tells("PulseParts x = new PulseParts();", "");
        tells("x.feed('+' << 24 | '2' << 16 | '-' << 8, 0, 0, 0, 0);", "\"+2-\", answers "
                + x.feed('+' << 24 | '2' << 16 | '-' << 8, 0, 0, 0, 0));
        int code = x.text(0);
        tells("int code = x.text(0);", code + ",");
        tells("int side = x.lobes(code, PulseParts.NONE, 1);", x.lobes(code, PulseParts.NONE, 1) + ",");
        tells("int none = x.lobes(7, PulseParts.NONE, 1);", x.lobes(7, PulseParts.NONE, 1) + ",");
        tells("x.feed('5' << 24 | ',' << 16, 0, 0, 0, 0);", "\"5,\", answers " + x.feed('5' << 24 | ',' << 16, 0, 0, 0, 0));
        tells("int fault = x.fault(2);", x.fault(2) + ",");
        tells("int refused = x.text(2);", x.text(2) + ",");
        tells("x.feed('7' << 24, 0, 0, 0, 0);", "\"5,7\", answers " + x.feed('7' << 24, 0, 0, 0, 0));
        int rests = x.text(2);
        tells("int rests = x.text(2);", rests + ",");
        tells("int seen = x.seen(rests, 35);", x.seen(rests, 35) + ",");
        texts();
        tests();
        bench.finish();
    }

    /** README has that line of code, and behind it a comment that begins with what is answered. */
    private static void tells(String code, String answer) {
        for (String line : lines) {
            if (line.startsWith(code)) {
                String behind = line.substring(code.length()).trim();
                bench.due("README's '" + line + "' begins with '" + answer + "'", behind.startsWith(answer.isEmpty() ? "" : "// " + answer), true);
                return;
            }
        }
        bench.due("README has '" + code + "'", false, true);
    }

    /** The texts of README's table are such, and there can be so many of them. */
    private static void texts() {
        int rows = 0;
        for (String line : lines) {
            String[] parts = line.split("\\|");
            if (line.startsWith("| ") && parts.length > 4 && parts[1].trim().matches("\\d")) {
                int sort = Integer.parseInt(parts[1].trim());
                String text = parts[3].replace("`", "").trim();
                PulseParts x = new PulseParts();
                int most = Integer.parseInt(parts[4].trim());
                for (int i = 0; i <= most; i++) {
                    bench.due("text " + i + " of the sort " + sort + ", " + text, Bench.tape(x, text).text(sort), i < most ? i : PulseParts.NONE);
                }
                rows++;
            }
        }
        bench.due("README's table has a row for each sort", rows, 3);
    }

    /** README names each test of the project. */
    private static void tests() throws IOException {
        String all = String.join("\n", lines);
        try (var files = Files.list(Path.of("src/test/java"))) {
            for (Path file : files.sorted().toList()) {
                String name = file.getFileName().toString();
                bench.due("README names " + name, name.startsWith("Head") || all.contains(name), true);
            }
        }
    }
}
