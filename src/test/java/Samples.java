/** Libraries that several tests use. */
final class Samples {
  /**
   * KEYS of p: a 6, b -2, c 1 (ORDER a c b); of q: a 0, b 6, c 3 (ORDER b c a); together 6 4 4 (a b c).
   * STEPS to places: 1, 2, 5.
   */
  static final String TWO = "topic x;topic y;book a x 3;book b y 2;book c x 1 y 1;"
      + "reader p odds 50 wants x 2 wants y -1;reader q odds 20 wants y 3 ought x 1;shelf 2;mood 4;bend old+weight-1;";

  private Samples() { }

  /**
   * As much as can be: 4 TOPICS, 10 BOOKS, 6 READERS. BOOK i has weight 9 - i of s and i of t, BOOK 4 has 9 of u,
   * BOOK 5 has 9 of v. ORDERS: p and o 0 1 .. 9; q and n 9 8 .. 0; r 4 0 1 2 3 5 ..; l 5 0 1 2 3 4 6 ...
   */
  static String full(String more) {
    StringBuilder text = new StringBuilder("topic s;topic t;topic u;topic v;");
    for (int i = 0; i < 10; i++) {
      text.append("book ").append((char) ('a' + i)).append(" s ").append(9 - i).append(" t ").append(i);
      if (i == 4) text.append(" u 9");
      if (i == 5) text.append(" v 9");
      text.append(';');
    }
    return text + "reader p odds 100 wants s 1;reader q odds 0 wants t 1;reader r odds 50 wants u 1;"
        + "reader l odds 50 wants v 1;reader n odds 1 wants s -1;reader o odds 99 wants t -1;" + more;
  }

  /** n BOOKS a, b, .. about nothing. */
  static String books(int n) {
    StringBuilder text = new StringBuilder();
    for (int i = 0; i < n; i++) text.append("book ").append((char) ('a' + i)).append(';');
    return text.toString();
  }
}
