import java.lang.reflect.InvocationTargetException;
import java.lang.reflect.Method;
import java.nio.file.Files;
import java.nio.file.Path;
import java.util.Arrays;
import java.util.Comparator;
import java.util.regex.Matcher;
import java.util.regex.Pattern;

/**
 * Runs the tests under src/test/edges: each is named after the promise's number and the sentence that it holds the class
 * to, and quotes that sentence. What is quoted must stand in the document, and all of its promises and Terms be quoted.
 */
public final class EdgesTest extends Edge {
  private static final Class<?>[] TESTS = {Promises01To03.class, Promises04To13.class, Promises14To26.class, Promises27To38.class,
      Promises39To45.class};
  private static final Path DOCUMENT = Path.of("../shared/DOC.md");

  private static String document = "";
  private static boolean[] quoted = new boolean[0];

  public static void main(String[] args) throws Exception {
    boolean told = Files.exists(DOCUMENT);
    if (told) document = Files.readString(DOCUMENT).replaceAll("[`\\s]+", " ");
    quoted = new boolean[document.length()];
    int ran = 0;
    for (Class<?> tests : TESTS) {
      Method[] methods = tests.getDeclaredMethods();
      Arrays.sort(methods, Comparator.comparing(Method::getName));
      for (Method test : methods) {
        Sentence sentence = test.getAnnotation(Sentence.class);
        if (sentence == null) continue;
        ran++;
        start(test.getName());
        run(test);
        if (told) for (String quote : sentence.value()) mark(test.getName(), quote);
      }
    }
    start("the document");
    if (told) nothingLeftOut();
    System.out.println(ran + " tests of sentences, " + wrongSoFar() + " checks failed");
    if (wrongSoFar() != 0) System.exit(1);
  }

  private static void run(Method test) throws IllegalAccessException {
    try {
      test.invoke(null);
    } catch (InvocationTargetException thrown) {
      fail("threw " + thrown.getCause());
    }
  }

  private static int placeOf(String heading) {
    int place = document.indexOf("## " + heading);
    return place < 0 ? document.length() : place;
  }

  private static int endOf(int promise) {
    return Math.min(placeOf("Promise " + (promise + 1) + ":"), placeOf("Not promised"));
  }

  /** A quote is of the promise in the test's name, or else of the Terms, or of what it is. */
  private static void mark(String name, String quote) {
    Matcher number = Pattern.compile("promise(\\d\\d)_.*").matcher(name);
    if (!number.matches()) {
      fail("has no promise in its name");
      return;
    }
    int promise = Integer.parseInt(number.group(1));
    boolean found = mark(quote, placeOf("Promise " + promise + ":"), endOf(promise))
        || mark(quote, placeOf("Terms"), placeOf("Promise 1:"))
        || mark(quote, placeOf("What it is"), placeOf("The public face"));
    if (!found) fail("no such sentence: " + quote);
  }

  private static boolean mark(String quote, int from, int to) {
    boolean found = false;
    int place = document.indexOf(quote, from);
    while (place >= 0 && place + quote.length() <= to) {
      Arrays.fill(quoted, place, place + quote.length(), true);
      found = true;
      place = document.indexOf(quote, place + 1);
    }
    return found;
  }

  private static void nothingLeftOut() {
    // headings, the signatures and the numbers of the parts are no sentences
    Pattern other = Pattern.compile("## Promise \\d+: \\w[\\w ]*? (int|long|TinkerTailor)\\b[^:]*:|## Terms|==== I+\\.|text ==== I+\\.| text ");
    Matcher found = other.matcher(document);
    while (found.find()) Arrays.fill(quoted, found.start(), found.end(), true);
    StringBuilder left = new StringBuilder();
    for (int i = placeOf("Terms"); i < placeOf("Not promised"); i++) {
      boolean out = Character.isLetterOrDigit(document.charAt(i)) && !quoted[i];
      if (out) left.append(document.charAt(i));
      else if (left.length() > 0 && document.charAt(i) == ' ') left.append(' ');
    }
    String words = left.toString().replaceAll(" +", " ").trim();
    if (!words.isEmpty()) fail("no test quotes: " + words);
  }
}
