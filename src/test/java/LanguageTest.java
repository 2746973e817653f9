import java.lang.reflect.Constructor;
import java.lang.reflect.Field;
import java.lang.reflect.Method;
import java.lang.reflect.Modifier;
import java.nio.file.Files;
import java.nio.file.Path;
import java.util.ArrayList;
import java.util.Arrays;
import java.util.List;
import java.util.Set;
import java.util.TreeSet;
import java.util.regex.Matcher;
import java.util.regex.Pattern;

/** The public face of the document, and what of ../shared/LANGUAGE.md can be seen by looking. */
public final class LanguageTest {
  private static final String FACE = "int feed(int) int table() int rhyme(int,int) int begins(int,int) int says(int,int)"
      + " int eater(int,int) int lay(int,int,int) int kind(int,int,int) int set(int,int) int turn() int supper(int)"
      + " int behind(int) int both(int) long shared(int) int can(int) int sure(int,int) int last(int)"
      + " long spoons(int,int,int,int,int,int) int fair(int) int gift() int petals(int) long petal(int,int) int best(int)"
      + " int rims() int wished(int) int row(int) int judge() int clear() int seeds(int,int,int,int) int back() int cycle()"
      + " int same(int,int) int rhymed(int) int pushes() long unknown(int,int,int,int) int planned(int) int scheme(int)"
      + " int pile(int) int move(int,int) int wins(int) int duel(int) int image() int restore() int count(int)";
  private static final Path DOCUMENT = Path.of("../shared/DOC.md");
  private static int wrong = 0;

  private static void must(boolean holds, String what) {
    if (holds) return;
    wrong++;
    System.out.println("not so: " + what);
  }

  public static void main(String[] args) throws Exception {
    Class<?> face = TinkerTailor.class;
    Set<String> names = faceHolds(face);
    List<Class<?>> all = new ArrayList<>(Arrays.asList(face.getDeclaredClasses()));
    must(all.size() < 12, "at most some twelve classes");
    for (Class<?> inside : all) {
      must(Modifier.isStatic(inside.getModifiers()), inside + " is static");
      must((inside.getModifiers() & (Modifier.PUBLIC | Modifier.PROTECTED)) == 0, inside + " is not public");
    }
    all.add(face);
    for (Class<?> one : all) membersHold(one, face, names);
    sourceHolds(Files.readString(Path.of("src/main/java/TinkerTailor.java")));
    if (Files.exists(DOCUMENT)) documentTells(Files.readString(DOCUMENT));
    System.out.println(wrong == 0 ? "the language is kept" : wrong + " things are not so");
    if (wrong != 0) System.exit(1);
  }

  private static Set<String> faceHolds(Class<?> face) {
    must(Modifier.isPublic(face.getModifiers()) && Modifier.isFinal(face.getModifiers()), "public final class");
    Constructor<?>[] made = face.getDeclaredConstructors();
    must(made.length == 1 && made[0].getParameterCount() == 0 && Modifier.isPublic(made[0].getModifiers()), "one constructor");
    Set<String> got = new TreeSet<>();
    Set<String> names = new TreeSet<>();
    for (Method m : face.getDeclaredMethods()) {
      if (Modifier.isPrivate(m.getModifiers())) continue;
      must(Modifier.isPublic(m.getModifiers()) && !Modifier.isStatic(m.getModifiers()), m + " is public");
      StringBuilder told = new StringBuilder(m.getReturnType() + " " + m.getName() + "(");
      for (Class<?> p : m.getParameterTypes()) told.append(told.charAt(told.length() - 1) == '(' ? "" : ",").append(p);
      got.add(told.append(")").toString());
      names.add(m.getName());
    }
    Set<String> want = new TreeSet<>(Arrays.asList(FACE.split("(?<=\\)) ")));
    must(got.equals(want), "the face is the document's: " + got);
    must(names.size() == 44, "44 names");
    return names;
  }

  /** The document's face, and the lines ahead of its promises, are those that FACE tells. */
  private static void documentTells(String document) {
    Set<String> want = new TreeSet<>(Arrays.asList(FACE.split("(?<=\\)) ")));
    must(told("(?m)^    public (int|long) (\\w+)\\((.*)\\);$", document).equals(want), "the document's public face is FACE");
    must(told("(?m)^`(int|long) (\\w+)\\((.*)\\)`: ", document).equals(want), "the promises' calls are FACE");
    must(document.contains("    public TinkerTailor();\n"), "the document's constructor");
  }

  private static Set<String> told(String form, String document) {
    Set<String> calls = new TreeSet<>();
    Matcher call = Pattern.compile(form).matcher(document);
    while (call.find()) {
      calls.add(call.group(1) + " " + call.group(2) + "(" + call.group(3).replaceAll(" \\w+(, )?", ",").replaceAll(",$", "") + ")");
    }
    return calls;
  }

  private static void membersHold(Class<?> one, Class<?> face, Set<String> names) {
    int fields = 0;
    for (Field f : one.getDeclaredFields()) {
      if (Modifier.isStatic(f.getModifiers())) must(Modifier.isFinal(f.getModifiers()), f + " is final");
      else fields++;
      must(one != face || Modifier.isPrivate(f.getModifiers()), f + " is private");
    }
    must(fields <= 20, one + " has at most some twenty fields");
    for (Method m : one.getDeclaredMethods()) {
      must(m.getParameterCount() <= 7, m + " takes at most seven");
      must(one == face && Modifier.isPublic(m.getModifiers()) || !names.contains(m.getName()), m + " has a name of its own");
    }
  }

  private static void sourceHolds(String source) {
    for (char c : source.toCharArray()) must(c == '\n' || c >= 32 && c < 127, "a sign of 32 to 126");
    String code = source.replaceAll("(?s)/\\*.*?\\*/", "").replaceAll("//[^\n]*", "").replaceAll("\"[^\"]*\"", "\"\"");
    for (String word : new String[] {"throw", "throws", "try", "catch", "synchronized", "assert", "import", "package", "double",
        "float", "instanceof", "Object", "System.out", "equals", "hashCode", "toString", "addExact", "Thread", "native"}) {
      Matcher found = Pattern.compile("\\b" + Pattern.quote(word) + "\\b").matcher(code);
      must(!found.find(), "no " + word);
    }
    must(!code.contains("->") && !code.contains("::"), "no lambda, no method reference");
    Matcher library = Pattern.compile("\\b([A-Z][a-z]\\w*)\\.(\\w+)").matcher(code);
    Set<String> used = new TreeSet<>();
    while (library.find()) used.add(library.group(1) + "." + library.group(2));
    used.removeAll(Set.of("Math.min", "Math.max", "Integer.bitCount", "System.arraycopy", "Games.moverLoses"));
    must(used.isEmpty(), "of the library only what is told: " + used);
    // what a run makes is counted: objects and rows come with the object alone, never with a call
    for (String line : code.split("\n")) {
      if (line.matches(".*\\bnew\\b.*")) must(line.matches(" +private final [\\w\\[\\]]+ \\w+ = new .*;"), "made by the constructor:" + line);
    }
    int start = -1;
    String[] lines = source.split("\n");
    for (int i = 0; i < lines.length; i++) {
      if (lines[i].matches(" {2,4}(public|private) [^=;]*\\{") && !lines[i].contains(" class ")) start = i;
      if (start >= 0 && lines[i].matches(" {2,4}\\}")) {
        must(i - start < 60, "short, from line " + (start + 1));
        start = -1;
      }
    }
  }
}
