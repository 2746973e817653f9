import java.io.ByteArrayOutputStream;
import java.io.IOException;
import java.io.PrintStream;
import java.lang.reflect.Method;
import java.net.URL;
import java.net.URLClassLoader;
import java.nio.charset.StandardCharsets;
import java.nio.file.Files;
import java.nio.file.Path;
import java.util.ArrayList;
import java.util.Arrays;
import java.util.List;
import java.util.regex.Matcher;
import java.util.regex.Pattern;
import javax.tools.JavaCompiler;
import javax.tools.ToolProvider;

/** What README.md shows as code compiles, and what it shows as an answer is what the class answers. */
public final class ReadmeTest {
  private static final Path README = Path.of("README.md");
  private static final Pattern BLOCK = Pattern.compile("(?s)\n```java\n(.*?)\n```");
  private static final Pattern ANSWERED = Pattern.compile("^x\\.(.*\\));\\s*// (-?\\d+)\\b.*$");
  private static final Pattern PRINTED = Pattern.compile("(?m)println\\(.*?\\); *// (-?\\d+)$");
  private static final Pattern CLASS = Pattern.compile("public final class (\\w+)");
  private static final Pattern REFUSED = Pattern.compile("(?m)^\\| -(\\d) +\\| (\\d+) .*`count\\((\\d+)\\)` \\|$");
  private static int wrong = 0;
  private static int answers = 0;

  public static void main(String[] args) throws Exception {
    String page = Files.readString(README);
    Path out = Files.createTempDirectory("readme");
    try {
      runAll(page, out);
    } finally {
      for (Path file : filesIn(out)) Files.delete(file);
      Files.delete(out);
    }
    refusalsHold(page);
    testsAreNamed(page);
    if (wrong == 0) System.out.println("README.md shows what is so: " + answers + " answers");
    if (wrong != 0) System.exit(1);
  }

  private static void must(boolean holds, String what) {
    if (holds) return;
    wrong++;
    System.out.println("not so in README.md: " + what);
  }

  /** What the runs that it shows call to tell what a call answered. */
  public static void due(String call, long got, String want) {
    answers++;
    must(Long.toString(got).equals(want), call + " is shown to answer " + want + ", but answers " + got);
  }

  private static void runAll(String page, Path out) throws Exception {
    Matcher block = BLOCK.matcher(page);
    int runs = 0;
    int programs = 0;
    while (block.find()) {
      String code = block.group(1);
      Matcher name = CLASS.matcher(code);
      if (name.find()) {
        programs++;
        programHolds(name.group(1), code, printedBy(out, name.group(1), code));
      } else {
        runs++;
        printedBy(out, "Run" + runs, asProgram("Run" + runs, code));
      }
    }
    must(programs == 1 && runs == 3, "a program and three runs are shown, but " + programs + " and " + runs + " were found");
  }

  private static void programHolds(String name, String code, String printed) {
    Matcher shown = PRINTED.matcher(code);
    StringBuilder due = new StringBuilder();
    while (shown.find()) {
      answers++;
      due.append(shown.group(1)).append(' ');
    }
    String got = printed.replaceAll("\\s+", " ");
    must(got.contentEquals(due), name + " is shown to print " + due + "but prints " + got);
  }

  /** A run of calls as a program: each call with an answer behind it is looked at. */
  private static String asProgram(String name, String code) {
    StringBuilder lines = new StringBuilder("public final class " + name + " {\n  public static void main(String[] args) {\n");
    for (String line : code.split("\n")) {
      Matcher answered = ANSWERED.matcher(line);
      if (answered.matches()) {
        String call = answered.group(1);
        lines.append("ReadmeTest.due(\"").append(call).append("\", x.").append(call).append(", \"").append(answered.group(2)).append("\");\n");
      } else {
        must(!line.startsWith("x."), "a call is shown without its answer: " + line);
        lines.append(line).append('\n');
      }
    }
    return lines.append("  }\n}\n").toString();
  }

  private static String printedBy(Path out, String name, String code) throws Exception {
    Path source = out.resolve(name + ".java");
    Files.writeString(source, code);
    JavaCompiler compiler = ToolProvider.getSystemJavaCompiler();
    must(compiler != null, "no compiler beside this java");
    if (compiler == null) return "";
    String here = System.getProperty("java.class.path");
    int failed = compiler.run(null, null, null, "-encoding", "UTF-8", "-cp", here, "-d", out.toString(), source.toString());
    must(failed == 0, name + " compiles");
    if (failed != 0) return "";
    PrintStream screen = System.out;
    ByteArrayOutputStream printed = new ByteArrayOutputStream();
    try (URLClassLoader loader = new URLClassLoader(new URL[] {out.toUri().toURL()}, ReadmeTest.class.getClassLoader())) {
      Method main = loader.loadClass(name).getMethod("main", String[].class);
      if (code.contains("System.out")) System.setOut(new PrintStream(printed, true, StandardCharsets.UTF_8));
      main.invoke(null, (Object) new String[0]);
    } finally {
      System.setOut(screen);
    }
    return printed.toString(StandardCharsets.UTF_8);
  }

  /** The table of refusals: which number, which of longs, by what it is counted. */
  private static void refusalsHold(String page) {
    Matcher row = REFUSED.matcher(page);
    List<Integer> told = new ArrayList<>();
    while (row.find()) {
      int number = Integer.parseInt(row.group(1));
      told.add(number);
      must(Long.parseLong(row.group(2)) == 4000000000000000000L + number, "-" + number + " of longs");
      must(Integer.parseInt(row.group(3)) == 10 + number, "-" + number + " is counted by count(" + (10 + number) + ")");
    }
    must(told.equals(List.of(1, 2, 3, 4, 6)), "the refusals are -1, -2, -3, -4, -6, but are told as " + told);
  }

  private static void testsAreNamed(String page) throws IOException {
    for (Path test : filesIn(Path.of("src/test/java"))) {
      String name = test.getFileName().toString().replace(".java", "");
      must(page.contains("- `" + name + "`:"), name + " is told");
    }
    Matcher path = Pattern.compile("(?m)`(\\.\\./shared/\\S+?|src/\\S+?)`").matcher(page);
    while (path.find()) must(Files.exists(Path.of(path.group(1))), path.group(1) + " is there");
  }

  private static List<Path> filesIn(Path directory) throws IOException {
    try (var all = Files.list(directory)) {
      return Arrays.asList(all.toArray(Path[]::new));
    }
  }
}
