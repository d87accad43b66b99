import java.io.ByteArrayOutputStream;
import java.io.File;
import java.io.IOException;
import java.io.PrintStream;
import java.net.URL;
import java.net.URLClassLoader;
import java.nio.charset.StandardCharsets;
import java.nio.file.Files;
import java.nio.file.Path;
import java.util.ArrayList;
import java.util.Arrays;
import java.util.List;
import java.util.regex.Matcher;
import java.util.regex.Pattern;
import java.util.stream.Stream;
import javax.tools.ToolProvider;

/** README.md: its example is compiled, run, and answers as it says; what it should tell stands in it. */
public final class BellBayReadme {
    private static int wrong = 0;

    private static void fail(String why) {
        wrong++;
        System.out.println("README.md: " + why);
    }

    // ---------------------------------------------------------------- the example

    private static List<String> blocksOf(String page) {
        List<String> all = new ArrayList<>();
        Matcher m = Pattern.compile("(?s)```java\n(.*?)```").matcher(page);
        while (m.find()) {
            all.add(m.group(1));
        }
        return all;
    }

    /** The numbers behind // are what is printed, one by one. */
    private static List<String> saidBy(String program) {
        List<String> said = new ArrayList<>();
        Matcher m = Pattern.compile("// (-?\\d+)\\b").matcher(program);
        while (m.find()) {
            said.add(m.group(1));
        }
        return said;
    }

    private static List<String> printedBy(String program, Path work) throws Exception {
        Path file = work.resolve("Example.java");
        Files.writeString(file, program);
        String here = System.getProperty("java.class.path");
        int bad = ToolProvider.getSystemJavaCompiler().run(null, null, null, "-cp", here, "-d", work.toString(), file.toString());
        if (bad != 0) {
            fail("its example can't be compiled");
            return List.of();
        }
        ByteArrayOutputStream bytes = new ByteArrayOutputStream();
        PrintStream before = System.out;
        try (URLClassLoader loader = new URLClassLoader(new URL[] {work.toUri().toURL()})) {
            System.setOut(new PrintStream(bytes, true, StandardCharsets.US_ASCII));
            loader.loadClass("Example").getMethod("main", String[].class).invoke(null, (Object) new String[0]);
        } finally {
            System.setOut(before);
        }
        return Arrays.asList(bytes.toString(StandardCharsets.US_ASCII).trim().split("\\s+"));
    }

    private static int checkExample(String page) throws Exception {
        List<String> blocks = blocksOf(page);
        if (blocks.size() != 1) {
            fail(blocks.size() + " blocks of Java, and not the one example");
            return 0;
        }
        Path work = Files.createTempDirectory("readme");
        try {
            List<String> said = saidBy(blocks.get(0));
            List<String> printed = printedBy(blocks.get(0), work);
            if (!said.equals(printed)) {
                fail("the example says " + said + " and prints " + printed);
            }
            if (said.size() < 20) {
                fail("the example says only " + said.size() + " answers");
            }
            return said.size();
        } finally {
            remove(work);
        }
    }

    private static void remove(Path work) throws IOException {
        try (Stream<Path> all = Files.list(work)) {
            all.map(Path::toFile).forEach(File::delete);
        }
        Files.delete(work);
    }

    // ---------------------------------------------------------------- the lines of a bay

    private static int bayOf(BellBay x, String text) {
        byte[] b = Arrays.copyOf(text.getBytes(StandardCharsets.ISO_8859_1), (text.length() + 19) / 20 * 20);
        java.nio.IntBuffer n = java.nio.ByteBuffer.wrap(b).asIntBuffer();
        while (n.hasRemaining()) {
            x.feed(n.get(), n.get(), n.get(), n.get(), n.get());
        }
        x.end(text.length());
        return x.bay();
    }

    /** The table's lines are a bay as they stand, with each line that the document knows. */
    private static void checkLines(String page) {
        StringBuilder text = new StringBuilder();
        Matcher m = Pattern.compile("(?m)^\\| `(\\w[^`]*;)` \\|").matcher(page);
        int lines = 0;
        while (m.find()) {
            text.append(m.group(1)).append(lines == 2 ? "ear 2 of 1 takes 1 across;" : "");
            lines++;
        }
        int read = bayOf(new BellBay(), text.toString());
        if (lines != 8 || read != 9) {
            fail("its " + lines + " kinds of LINE, and one EAR more, are read as " + read);
        }
        for (String word : new String[] {"bay ", "church ", "ear ", "wind ", "fog ", "deaf ", "funeral ", "starts "}) {
            if (!page.contains("| `" + word)) {
                fail("no LINE of " + word);
            }
        }
    }

    // ---------------------------------------------------------------- what it should tell

    private static void checkWords(String page, Path tests, String document) throws IOException {
        List<String> due = new ArrayList<>(List.of("feed(a, b, c, d, e)", "`end(n)`", "`bay()`", "`fault(0)`", "`fault(1)`",
            "SLOTS", "IMAGES", "512 calls", ".ci/run", "../shared/tests", "../shared/DOC.md", "../shared/LANGUAGE.md"));
        Matcher m = Pattern.compile("-\\d[\\d,]*").matcher(document.substring(document.indexOf("## Promise 1:")));
        while (m.find()) {
            due.add("| " + m.group().replaceAll(",$", "") + " |");
        }
        due.removeIf(one -> one.equals("| -20 |"));
        due.add("| -1 (`BellBay.NONE`) |");
        try (Stream<Path> all = Files.list(tests)) {
            all.forEach(one -> due.add("- `tests/" + one.getFileName() + "`"));
        }
        for (String one : due) {
            if (!page.contains(one)) {
                fail("it does not tell " + one);
            }
        }
    }

    /** The calls that the page says answer -2,000,000 are those of the document, without one more. */
    private static void checkLoneCalls(String page, String document) {
        String text = document.replace("2,000,000)", "2,000,000");
        int from = page.indexOf("### Answers below 0");
        String named = page.substring(from, page.indexOf("|", from));
        Matcher m = Pattern.compile("(?s)## Promise \\d+: (\\w+)\n(.*?)(?=\n## )").matcher(text);
        while (m.find()) {
            boolean lone = m.group(2).contains("-2,000,000");
            if (lone != named.contains("`" + m.group(1) + "`")) {
                fail((lone ? "it leaves out -2,000,000 of " : "it tells of -2,000,000 of ") + m.group(1));
            }
        }
    }

    public static void main(String[] args) throws Exception {
        if (args.length < 2) {
            System.out.println("tell where the source and the document are");
            System.exit(1);
        }
        Path root = Path.of(args[0]).toAbsolutePath().normalize().getParent().getParent().getParent().getParent();
        String page = Files.readString(root.resolve("README.md"));
        String document = Files.readString(Path.of(args[1]));
        int answers = checkExample(page);
        checkLines(page);
        checkWords(page, root.resolve("tests"), document);
        checkLoneCalls(page, document);
        System.out.println(answers + " answers of the page's example; " + wrong + " things not as due");
        if (wrong != 0) {
            System.exit(1);
        }
    }
}
