import java.io.ByteArrayOutputStream;
import java.lang.reflect.InvocationTargetException;
import java.net.URL;
import java.net.URLClassLoader;
import java.nio.file.Files;
import java.nio.file.Path;
import java.util.ArrayList;
import java.util.Comparator;
import java.util.LinkedHashMap;
import java.util.List;
import java.util.Map;
import java.util.regex.Matcher;
import java.util.regex.Pattern;
import java.util.stream.Stream;
import javax.tools.ToolProvider;

/** README.md says how to use every call of the face, and what it says is so. */
public final class ReadmeTest {
  private static final int LEAST = Integer.MIN_VALUE;
  private static final Pattern ROW = Pattern.compile("\\| `([^`|]+\\([^`|]*\\))` \\| ([^|]+) \\| ([^|]+) \\|");
  private static final Pattern EXAMPLE = Pattern.compile("\\s*(\\S.*);\\s*// (-?\\d+|true|false)");

  /** By a call's name the row's last cell: what it answers. */
  private final Map<String, String> answers = new LinkedHashMap<>();
  private final List<String> calls = new ArrayList<>();
  private final String readme;

  private ReadmeTest(String readme) {
    this.readme = readme;
    for (String line : readme.split("\n")) {
      Matcher row = ROW.matcher(line);
      if (row.matches()) {
        calls.add(row.group(1));
        answers.put(row.group(1).replaceAll("^(\\w+ )?(\\w+)\\(.*$", "$2"), row.group(3));
      }
    }
  }

  public static void main(String[] args) throws Exception {
    ReadmeTest test = new ReadmeTest(Files.readString(Path.of("README.md")));
    test.everyCall(Files.readString(Path.of("../shared/DOC.md")));
    test.everyTest();
    test.refusalsOfTelling();
    test.refusalsOfTexts();
    test.refusalsOfAsking();
    test.examples();
    Due.end();
  }

  private void everyCall(String document) {
    int count = 0;
    Matcher face = Pattern.compile("(?m)^    public ((\\w+ )?\\w+\\(.*\\));$").matcher(document);
    while (face.find()) {
      count++;
      Due.be("README.md has a row for " + face.group(1), calls.contains(face.group(1)), true);
    }
    Due.be("calls of the face", count, 27);
    Due.be("rows for calls in README.md", calls.size(), count);
    Due.be("README.md has the constant", readme.contains("`public static final int NONE = -1`"), true);
  }

  private void everyTest() throws Exception {
    Due.be("README.md says how to run the tests", readme.contains("\n    .ci/run\n"), true);
    try (Stream<Path> files = Files.list(Path.of("src/test/java"))) {
      for (Path file : files.filter(f -> f.toString().endsWith("Test.java")).toList()) {
        String name = file.getFileName().toString().replace(".java", "");
        Due.be("README.md says what " + name + " tests", readme.contains("`" + name + "`"), true);
      }
    }
  }

  /** A call on a house that was used a little answers so, and its row says so. */
  private void refuses(String name, String said, Call call, long due) {
    Due.be("README.md says that " + name + " may answer " + said, answers.getOrDefault(name, "").contains(said), true);
    SilentHouse house = new SilentHouse();
    Houses.some(house);
    Due.be(name + " refuses", call.on(house), due);
  }

  private void refusalsOfTelling() {
    refuses("person", "`NONE` for anything else", h -> h.person(10, 0, 0), -1);
    refuses("line", "`NONE` for anything else", h -> h.line(3, 0), -1);
    refuses("seed", "`false` for anything else", h -> Call.told(h.seed(10000)), 0);
    refuses("seat", "`false` for anything else", h -> Call.told(h.seat(0, 16)), 0);
    refuses("seat", "if the seat is taken", h -> Call.told(h.seat(2, 1)), 0);
    refuses("seat", "if it is so already", h -> Call.told(h.seat(0, 0)), 0);
    refuses("hire", "`false` for anything else", h -> Call.told(h.hire(6, true)), 0);
    refuses("hire", "if it is so already", h -> Call.told(h.hire(0, false)), 0);
    refuses("night", "`NONE` if nobody sits", h -> new SilentHouse().night(), -1);
    refuses("played", "`-2` for anything else", h -> h.played(1), -2);
    refuses("undo", "`NONE` if there is none", h -> new SilentHouse().undo(), -1);
  }

  private void refusalsOfTexts() {
    refuses("feed", "`NONE`, and none come", h -> {
      Tape.put(h, " ".repeat(281));
      return h.feed(0, 0, 0, 0, 0) + h.about(8);
    }, 280);
    refuses("end", "`NONE` if the tape has not so many", h -> h.end(8), -1);
    refuses("text", "`NONE` if it has a fault", h -> Tape.read(h, "loud wit;"), -1);
    refuses("text", "nothing is read, and the tape stays", h -> {
      Tape.read(h, "");
      Tape.read(h, "");
      Tape.read(h, "");
      return 100L * Tape.read(h, "loud wit;") + h.about(8);
    }, -91);
    refuses("fault", "`NONE` for anything else", h -> h.fault(2), -1);
    refuses("fault", "before any was read", h -> new SilentHouse().fault(0), -1);
    refuses("by", "`false` for anything else", h -> Call.told(h.by(1)), 0);
  }

  private void refusalsOfAsking() {
    refuses("of", "`-2` for anything else", h -> h.of(0, 6), -2);
    refuses("about", "`-2` for anything else", h -> h.about(9), -2);
    refuses("wave", "`NONE` for anything else", h -> h.wave(3, 0), -1);
    refuses("all", "`NONE` for anything else", h -> h.all(64), -1);
    refuses("caused", "`-1000` for anything else", h -> h.caused(2), -1000);
    refuses("fair", "`-1000000` for anything else", h -> h.fair(2, 0), -1000000);
    refuses("quietest", "`-2` for anything else", h -> h.quietest(16), -2);
    refuses("cut", "`NONE` for anything else", h -> h.cut(991), -1);
    refuses("stilled", "for anything else", h -> h.stilled(991), -1);
    refuses("stilled", "`NONE` if no set does", h -> h.by(Tape.read(h, "loud 9;")) ? h.stilled(26) : 0, -1);
    refuses("seen", "`-2` for anything else", h -> h.seen(100), -2);
    refuses("seen", "if there are not so many lines", h -> h.seen(0) + h.seen(0) + h.seen(0), 2 + 3 - 2);
    refuses("who", "`NONE` if there is none such", h -> h.who(64), -1);
    refuses("who", "for anything else", h -> h.who(LEAST), -1);
  }

  /** Compiles the page's examples as they stand there and runs them. */
  private void examples() throws Exception {
    StringBuilder members = new StringBuilder();
    StringBuilder rows = new StringBuilder();
    int count = 0;
    Matcher block = Pattern.compile("(?s)```java\n(.*?)```").matcher(readme);
    while (block.find()) {
      if (block.group(1).startsWith("static ")) {
        members.append(block.group(1));
        continue;
      }
      for (String line : block.group(1).split("\n")) {
        Matcher example = EXAMPLE.matcher(line);
        count += example.matches() ? 1 : 0;
        rows.append(example.matches() ? asDue(example.group(1), example.group(2)) : line).append("\n");
      }
    }
    Due.be("README.md has examples with their answers", count >= 20, true);
    run("public final class Examples {\n" + members
        + "static void due(String call, Object got, Object want) {\n"
        + "if (!got.equals(want)) throw new IllegalStateException(call + \" answered \" + got + \", due is \" + want);\n}\n"
        + "public static void run() {\n" + rows + "}\n}\n");
  }

  private static String asDue(String call, String answer) {
    String name = call.replace("\\", "\\\\").replace("\"", "\\\"");
    return "due(\"" + name + "\", " + call + ", " + answer + ");";
  }

  private static void run(String source) throws Exception {
    Path folder = Files.createTempDirectory("examples");
    try {
      Path file = Files.writeString(folder.resolve("Examples.java"), source);
      ByteArrayOutputStream said = new ByteArrayOutputStream();
      int result = ToolProvider.getSystemJavaCompiler().run(null, said, said,
          "-cp", System.getProperty("java.class.path"), "-d", folder.toString(), file.toString());
      Due.be("the examples of README.md compile: " + said, result, 0);
      if (result == 0) {
        try (URLClassLoader loader = new URLClassLoader(new URL[] {folder.toUri().toURL()})) {
          loader.loadClass("Examples").getMethod("run").invoke(null);
        }
      }
    } catch (InvocationTargetException e) {
      Due.be("an example of README.md: " + e.getCause().getMessage(), false, true);
    } finally {
      try (Stream<Path> left = Files.walk(folder)) {
        for (Path one : left.sorted(Comparator.reverseOrder()).toList()) {
          Files.delete(one);
        }
      }
    }
  }
}
