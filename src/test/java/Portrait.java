/** All that calls show of an object, as a text. It spends the object: its ACTS, its BOXES, its LOOKS, its TAPE. */
final class Portrait {
  private final WantShelves x;
  private final StringBuilder text = new StringBuilder();

  private Portrait(WantShelves x) { this.x = x; }

  /** Of a small library: a portrait takes some 300 calls of the 512. */
  static String of(WantShelves x) {
    Portrait p = new Portrait(x);
    p.row("fault", x.fault(0), x.fault(1));
    for (int what = 0; what < 15; what++) p.row("about " + what, x.about(what));
    for (int i = 0; i < x.about(13); i++) p.row("lies " + i, x.lies(i));
    p.told();
    p.earnest();
    p.shelves();
    p.known();
    p.leftBehind();
    p.actsBack();
    p.boxes();
    p.tape();
    return p.text.toString();
  }

  private void row(String what, long... answers) {
    text.append(what).append(':');
    for (long answer : answers) text.append(' ').append(answer);
    text.append('\n');
  }

  private void told() {
    for (int b = 0; b < x.about(1); b++) {
      for (int t = 0; t < x.about(0); t++) row("weight", x.weight(b, t));
    }
    for (int r = 0; r < x.about(2); r++) row("odds", x.reader(r, 0));
  }

  private void earnest() {
    row("in, out, read", x.about(3), x.about(4), x.about(5));
    for (int r = 0; r < x.about(2); r++) {
      row("mood, read", x.reader(r, 1), x.reader(r, 3));
      for (int t = 0; t < x.about(0); t++) row("wants", x.wants(r, t));
    }
  }

  private void shelves() {
    for (int b = 0; b < x.about(1); b++) {
      row("steps", x.steps(b));
      for (int r = 0; r < x.about(2); r++) row("key", x.key(r, b));
      for (int party = 0; party < 1 << x.about(2); party++) row("book", x.book(party, b));
    }
  }

  private void known() {
    for (int r = 0; r < x.about(2); r++) {
      for (int k = 0; k <= x.about(10) && k < 8; k++) row("fit", x.fit(r, 1, k));
    }
    for (int i = 0; i < x.about(8) && i < 6; i++) row("untell", x.untell(i) ? 1 : 0);
  }

  private void leftBehind() {
    row("was", x.was(0), x.was(1), x.was(2));
    row("hush", x.hush());
  }

  /** Redoes all, then takes all back, so that both rows of ACTS are seen. */
  private void actsBack() {
    int redone = 0;
    for (int i = 0; i < 41 && x.redo(); i++) redone++;
    row("redone", redone);
    earnest();
    int undone = 0;
    for (int i = 0; i < 41 && x.undo(); i++) {
      undone++;
      if (i < 5) earnest();
    }
    row("undone", undone);
    earnest();
  }

  private void boxes() {
    for (int box = 0; box < 3; box++) {
      row("back", x.back(box));
      earnest();
    }
  }

  private void tape() {
    row("library", x.library());
    row("its fault", x.fault(0), x.fault(1));
  }
}
