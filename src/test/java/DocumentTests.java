import java.lang.reflect.Constructor;
import java.lang.reflect.Field;
import java.lang.reflect.Method;
import java.lang.reflect.Modifier;
import java.nio.file.Files;
import java.nio.file.Path;
import java.util.Arrays;
import java.util.Set;
import java.util.TreeSet;
import java.util.regex.Matcher;
import java.util.regex.Pattern;

/** The document itself: the face that it shows is the class's, and each of its promises has its tests. */
public final class DocumentTests {
  private static final int PROMISES = 41;

  public static void main(String[] args) throws Exception {
    String document = Files.readString(Path.of("../shared/DOC.md"));
    face(document.substring(document.indexOf("```java"), document.indexOf("## Terms")));
    constants(document);
    promises(document);
    Due.close();
  }

  private static void face(String shown) throws Exception {
    Set<String> due = new TreeSet<>();
    Matcher line = Pattern.compile("(?m)^ +public ([^;=]*\\))\\s*;").matcher(shown);
    while (line.find()) due.add(line.group(1).replaceAll("(int|long|boolean) \\w+([,)])", "$1$2"));
    Set<String> is = new TreeSet<>();
    for (Constructor<?> c : WantShelves.class.getConstructors()) is.add("WantShelves" + types(c.getParameterTypes()));
    for (Method m : WantShelves.class.getDeclaredMethods()) {
      if (!Modifier.isPublic(m.getModifiers())) continue;
      is.add(m.getReturnType() + " " + m.getName() + types(m.getParameterTypes()));
      Due.is(m + " is of an object", Modifier.isStatic(m.getModifiers()), false);
    }
    Due.is("the face has " + is + ", due is " + due, is.equals(due), true);
    Due.is("the face's methods, and the constructor", is.size(), PROMISES);
    Due.is("the class is public", Modifier.isPublic(WantShelves.class.getModifiers()), true);
    Due.is("the class is final", Modifier.isFinal(WantShelves.class.getModifiers()), true);
    Due.is("the class has no package", WantShelves.class.getPackageName().isEmpty(), true);
  }

  private static String types(Class<?>[] types) {
    return Arrays.toString(types).replace('[', '(').replace(']', ')');
  }

  private static void constants(String document) throws Exception {
    Matcher line = Pattern.compile("public static final int (\\w+) = (-?\\d+);").matcher(document);
    int seen = 0;
    while (line.find()) {
      seen++;
      Field f = WantShelves.class.getField(line.group(1));
      Due.is(f + " is an int", f.getType() == int.class && Modifier.isFinal(f.getModifiers()), true);
      Due.is(f.getName(), f.getInt(null), Integer.parseInt(line.group(2)));
    }
    Due.is("constants", seen, WantShelves.class.getFields().length);
  }

  /** CallBoundaryTests has a method for each promise, named by its number, and calls it. */
  private static void promises(String document) throws Exception {
    String tests = Files.readString(Path.of("src/test/java/CallBoundaryTests.java"));
    Matcher heading = Pattern.compile("(?m)^## Promise (\\d+): (.*)$").matcher(document);
    int number = 0;
    while (heading.find()) {
      number++;
      Due.is("promises stand by number", Integer.parseInt(heading.group(1)), number);
      String name = number == 1 ? "NewObject" : heading.group(2).substring(0, 1).toUpperCase() + heading.group(2).substring(1);
      Due.is("promise " + number + " is tested", tests.contains("\n    p" + number + name + "();\n"), true);
    }
    Due.is("promises", number, PROMISES);
  }
}
