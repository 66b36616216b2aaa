import java.lang.reflect.Field;
import java.lang.reflect.Member;
import java.lang.reflect.Method;
import java.lang.reflect.Modifier;
import java.nio.file.Files;
import java.nio.file.Path;
import java.util.ArrayList;
import java.util.HashSet;
import java.util.List;
import java.util.Set;
import java.util.regex.Matcher;
import java.util.regex.Pattern;

/** What can be seen of LANGUAGE.md's rules: the face, the words that may not stand in the source, its measures. */
public final class LanguageTests {
  private static final String FACE = "feed end library fault weight wants reader key place book steps comes mood out read "
      + "undo redo unlike send think errand leads hide pretend rest left hush was one crowd lies look untell later fit "
      + "sure ask image back about";

  public static void main(String[] args) throws Exception {
    face();
    nested();
    String source = Files.readString(Path.of("src/main/java/WantShelves.java"));
    words(plain(source));
    library(plain(source));
    methods(plain(source));
    Due.close();
  }

  private static void face() {
    Set<String> face = Set.of(FACE.split(" "));
    Set<String> seen = new HashSet<>();
    for (Method m : WantShelves.class.getDeclaredMethods()) {
      if (Modifier.isPublic(m.getModifiers())) seen.add(m.getName());
      else Due.is(m + " is private, with a name of its own", isPrivate(m) && !face.contains(m.getName()), true);
    }
    Due.is("the face has all methods, and no other", seen.equals(face), true);
    for (Field f : WantShelves.class.getDeclaredFields()) {
      boolean told = Set.of("NONE", "GAP").contains(f.getName());
      Due.is(f + " is as the face has it", told ? Modifier.isPublic(f.getModifiers()) : isPrivate(f), true);
    }
    Due.is("fields", fieldsOf(WantShelves.class) <= 20, true);
    Due.is("public constructors", WantShelves.class.getConstructors().length, 1);
  }

  private static boolean isPrivate(Member m) { return Modifier.isPrivate(m.getModifiers()) || m.isSynthetic(); }

  private static long fieldsOf(Class<?> c) {
    long count = 0;
    for (Field f : c.getDeclaredFields()) if (!Modifier.isStatic(f.getModifiers())) count++;
    return count;
  }

  private static void nested() {
    Set<String> face = Set.of(FACE.split(" "));
    Class<?>[] all = WantShelves.class.getDeclaredClasses();
    Due.is("classes", all.length <= 12, true);
    for (Class<?> c : all) {
      Due.is(c + " is static", Modifier.isStatic(c.getModifiers()), true);
      Due.is(c + " is not public", Modifier.isPublic(c.getModifiers()), false);
      Due.is(c + ": fields", fieldsOf(c) <= 20, true);
      for (Method m : c.getDeclaredMethods()) Due.is(m + " has a name of its own", face.contains(m.getName()), false);
      for (Field f : c.getDeclaredFields()) {
        if (!Modifier.isStatic(f.getModifiers())) continue;
        Due.is(f + " is final", Modifier.isFinal(f.getModifiers()), true);
        Due.is(f + " is a number or a text", f.getType() == int.class || f.getType() == String.class, true);
      }
    }
  }

  /** The source without comments and texts. */
  private static String plain(String source) {
    String text = source.replaceAll("(?s)/\\*.*?\\*/", "").replaceAll("//[^\n]*", "");
    return text.replaceAll("\"[^\"\n]*\"", "\"\"").replaceAll("'[^'\n]'", "' '");
  }

  private static void words(String text) {
    String[] never = {"throw", "throws", "try", "catch", "finally", "synchronized", "assert", "instanceof", "var",
      "record", "Object", "Exception", "System\\.out", "hashCode", "equals", "toString", "Exact", "Random", "Thread",
      "Optional", "Stream", "Map", "Set"};
    for (String word : never) {
      Due.is("the source has " + word, Pattern.compile("\\b" + word + "\\b").matcher(text).find(), false);
    }
    Due.is("the source has ->", text.contains("->"), false);
    Due.is("the source has ::", text.contains("::"), false);
    Due.is("texts are joined by +", text.contains("\" +") || text.contains("+ \""), false);
    Matcher imports = Pattern.compile("import ([^;]*);").matcher(text);
    while (imports.find()) Due.is("import " + imports.group(1), imports.group(1).equals("java.util.Arrays"), true);
    Due.is("while has no bound of its own", text.contains("while"), false);
  }

  /** Of the library's classes only such calls as LANGUAGE.md lists. */
  private static void library(String text) {
    Set<String> fine = Set.of("Arrays.fill", "System.arraycopy", "Math.max", "Math.min", "Math.floorMod", "Integer.bitCount");
    Pattern call = Pattern.compile("\\b(Arrays|System|Math|Integer|Long|Character|StringBuilder|String|List)\\.\\w+");
    Matcher calls = call.matcher(text);
    int seen = 0;
    while (calls.find()) {
      seen++;
      Due.is(calls.group() + " is listed", fine.contains(calls.group()), true);
    }
    Due.is("calls of the library were seen", seen > 20, true);
  }

  /** Methods are some sixty lines at most, and take seven parameters at most. */
  private static void methods(String text) {
    List<String> lines = new ArrayList<>(List.of(text.split("\n")));
    Pattern head = Pattern.compile("^( {4}| {8})(?:[a-zA-Z\\[\\]]+ )+([a-zA-Z]+)\\(([^)]*)\\) \\{$");
    int seen = 0;
    for (int i = 0; i < lines.size(); i++) {
      Matcher m = head.matcher(lines.get(i));
      if (!m.find() || lines.get(i).contains(" else ")) continue;
      seen++;
      int end = i;
      while (!lines.get(end).equals(m.group(1) + "}")) end++;
      Due.is(m.group(2) + " is short", end - i <= 60, true);
      Due.is(m.group(2) + " takes seven at most", m.group(3).split(",").length <= 7, true);
    }
    Due.is("methods were seen", seen > 100, true);
  }
}
