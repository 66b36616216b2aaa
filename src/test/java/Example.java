/** A library told in a text, and what it answers. README.md quotes this file and what it prints. */
public final class Example {
  private static final String TEXT = """
      topic x; topic y;
      book a x 3; book b y 2; book c x 1 y 1;
      reader p odds 50 wants x 2 wants y -1;
      reader q odds 20 wants y 3 ought x 1;
      law want * 2 + ought - reads; bend old + weight - 1;
      quarrel turns; shelf 2; mood 4;
      """;

  public static void main(String[] args) {
    WantShelves x = new WantShelves();
    tell(x, TEXT);
    System.out.println("for p the BOOKS stand " + order(x, 0b01));
    System.out.println("for q the BOOKS stand " + order(x, 0b10));
    System.out.println("for both the BOOKS stand " + order(x, 0b11));
    x.comes(0);
    x.comes(1);
    System.out.println("STEPS to BOOK 2, both being IN: " + x.steps(2));
    System.out.println("whom to send for BOOK 2: PARTY " + x.send(2, 1) + ", STEPS " + x.send(2, 0));
    x.read(0, 0);
    System.out.println("BOOK 0 read, p wants " + x.wants(0, 0) + " and " + x.wants(0, 1));
    x.undo();
    System.out.println("not read, p wants " + x.wants(0, 0) + " and " + x.wants(0, 1));
    System.out.println("p hides best among " + x.hide(0, 2, 1, 1) + " ROWS, BOOK 2 being at place 0 or 1: by wants "
        + x.lies(0) + " and " + x.lies(1));
    System.out.println("the odds that BOOK 1 is within 1 STEP: " + x.crowd(1, 1, 0) + " of " + x.crowd(1, 1, 1));
    tell(x, "topic x; book a z 3;");
  }

  /** Puts a text on the TAPE, twenty bytes at a time, and has it read. */
  private static void tell(WantShelves x, String text) {
    int[] five = new int[5];
    for (int from = 0; from < text.length(); from += 20) {
      for (int i = 0; i < 20; i++) {
        int at = from + i;
        five[i / 4] = five[i / 4] << 8 | (at < text.length() ? text.charAt(at) : ' ');
      }
      x.feed(five[0], five[1], five[2], five[3], five[4]);
    }
    x.end(text.length());
    int books = x.library();
    if (books == WantShelves.NONE) {
      System.out.println("FAULT " + x.fault(0) + " at byte " + x.fault(1));
    } else {
      System.out.println("BOOKS: " + books);
    }
  }

  private static String order(WantShelves x, int party) {
    StringBuilder row = new StringBuilder();
    for (int place = 0; x.book(party, place) != WantShelves.NONE; place++) {
      row.append(place == 0 ? "" : ", ").append(x.book(party, place));
    }
    return row.toString();
  }
}
