import java.nio.ByteBuffer;
import java.nio.charset.StandardCharsets;

/** Counts answers that are not as due, and feeds texts. */
final class Due {
  private static int asked = 0;
  private static int wrong = 0;

  private Due() { }

  static void is(String call, long got, long want) {
    asked++;
    if (got == want) return;
    wrong++;
    if (wrong <= 50) System.out.println(call + " answered " + got + ", due is " + want);
  }

  static void is(String call, boolean got, boolean want) { is(call, got ? 1 : 0, want ? 1 : 0); }

  /** Puts a text on the TAPE of a new object, or of one whose TAPE is empty. */
  static void feed(WantShelves x, String text) {
    for (int from = 0; from < text.length(); from += 20) x.feed(five(text, from)[0], five(text, from)[1],
        five(text, from)[2], five(text, from)[3], five(text, from)[4]);
    x.end(text.length());
  }

  static int[] five(String text, int from) {
    byte[] bytes = new byte[20];
    byte[] some = text.substring(from, Math.min(text.length(), from + 20)).getBytes(StandardCharsets.ISO_8859_1);
    System.arraycopy(some, 0, bytes, 0, some.length);
    int[] five = new int[5];
    ByteBuffer.wrap(bytes).asIntBuffer().get(five);
    return five;
  }

  static WantShelves told(String text) {
    WantShelves x = new WantShelves();
    feed(x, text);
    if (x.library() == WantShelves.NONE) {
      is("library() for: " + text + " (fault " + x.fault(0) + " at " + x.fault(1) + ")", 1, 0);
    }
    return x;
  }

  /** All that lies there must be this row, and no more. */
  static void lies(String call, WantShelves x, int... row) {
    is(call + ", how many lie there", x.about(13), row.length);
    for (int i = 0; i < row.length; i++) is(call + ", lies(" + i + ")", x.lies(i), row[i]);
    is(call + ", lies(" + row.length + ")", x.lies(row.length), WantShelves.GAP);
  }

  static void close() {
    System.out.println(asked + " answers, " + wrong + " not as due");
    if (wrong != 0) System.exit(1);
  }
}
