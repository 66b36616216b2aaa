import java.io.ByteArrayOutputStream;
import java.io.File;
import java.io.PrintStream;
import java.lang.reflect.Method;
import java.lang.reflect.Modifier;
import java.nio.file.Files;
import java.nio.file.Path;
import java.util.Set;
import java.util.TreeSet;
import java.util.regex.Matcher;
import java.util.regex.Pattern;

/** What README.md says must be so: its example and what that prints, the calls, the files, the tests. */
public final class ReadmeTests {
  private static final Path TESTS = Path.of("src/test/java");

  public static void main(String[] args) throws Exception {
    String readme = Files.readString(Path.of("README.md"));
    example(readme);
    calls(readme);
    files(readme);
    tests(readme);
    Due.close();
  }

  private static void example(String readme) throws Exception {
    String source = Files.readString(TESTS.resolve("Example.java"));
    Due.is("README has the example as it is", readme.contains("```java\n" + source + "```"), true);
    String printed = printedByExample();
    boolean same = readme.contains("It prints:\n\n```text\n" + printed + "```");
    Due.is("README has what the example prints", same, true);
    if (!same) System.out.println(printed);
  }

  private static String printedByExample() {
    PrintStream out = System.out;
    ByteArrayOutputStream kept = new ByteArrayOutputStream();
    System.setOut(new PrintStream(kept, true));
    Example.main(new String[0]);
    System.setOut(out);
    return kept.toString().replace(System.lineSeparator(), "\n");
  }

  /** Each method is named with as many arguments as it takes. */
  private static void calls(String readme) {
    for (Method m : WantShelves.class.getDeclaredMethods()) {
      if (!Modifier.isPublic(m.getModifiers())) continue;
      String arguments = "\\w+(, \\w+)".repeat(Math.min(1, m.getParameterCount()));
      if (m.getParameterCount() > 0) arguments += "{" + (m.getParameterCount() - 1) + "}";
      Pattern named = Pattern.compile("`" + m.getName() + "\\(" + arguments + "\\)`");
      Due.is("README names " + m.getName(), named.matcher(readme).find(), true);
    }
  }

  private static void files(String readme) {
    Matcher named = Pattern.compile("(?:\\.\\./shared|src|\\.ci)/[\\w/.]*\\w").matcher(readme);
    int seen = 0;
    while (named.find()) {
      seen++;
      Due.is(named.group() + " is there", Files.exists(Path.of(named.group())), true);
    }
    Due.is("files are named", seen > 5, true);
  }

  private static void tests(String readme) {
    Set<String> there = new TreeSet<>();
    for (File f : TESTS.toFile().listFiles()) {
      if (f.getName().endsWith("Tests.java")) there.add(f.getName().replace(".java", ""));
    }
    Set<String> told = new TreeSet<>();
    Matcher named = Pattern.compile("`(\\w+Tests)`").matcher(readme);
    while (named.find()) told.add(named.group(1));
    Due.is("README tells of " + told + ", there are " + there, told.equals(there), true);
  }
}
