/**
 * All that can be asked of an object, as one text. Asking uses the object up (lists are emptied, acts undone), so each
 * object is asked once; two objects with equal texts are in the same state as far as calls can tell.
 */
final class Snapshot {
  private static final int STATE = PlatesSing.STATE;

  private final PlatesSing x;
  private final StringBuilder all = new StringBuilder();
  private int calls = 0;

  private Snapshot(PlatesSing x) {
    this.x = x;
  }

  /** An object lives 512 calls, so looking at it must leave room for what was done to it before. */
  static String of(PlatesSing x) {
    Snapshot s = new Snapshot(x);
    s.counts();
    s.latestBlow();
    s.lists();
    s.shelves();
    s.bodies();
    s.rollAndEars();
    s.history();
    s.tape();
    if (s.calls > 335) throw new IllegalStateException("a snapshot of " + s.calls + " calls");
    return s.all.toString();
  }

  private long note(long answer) {
    all.append(answer).append(' ');
    calls++;
    return answer;
  }

  private void head(String what) {
    all.append("| ").append(what).append(": ");
  }

  private void counts() {
    head("counts");
    for (int what = 0; what <= 5; what++) note(x.count(what));
    note(x.digest());
    head("trace");
    for (int i = 0; i < 13; i++) note(x.trace(i));
    head("joined");
    for (int n = 2; n < 5; n++) note(x.law(n, 21));
  }

  private void latestBlow() {
    for (int ear = 0; ear < 4; ear++) {
      head("ear " + ear);
      note(x.heard(ear, 1));
      note(x.heard(ear, 3));
      note(x.loud(ear, -1));
      note(x.loud(ear, 9));
    }
  }

  private void lists() {
    head("plan");
    for (int what = 0; what <= 3; what++) note(x.tune(what));
    for (int k = 0; k < 6; k++) note(x.moved(k, 0, 9));
    // wishes that take as many strokes as the list has
    note(x.wish(2, 9, 0));
    note(x.wish(2, 8, 0));
    note(x.tune(2));
    note(x.tune(3));
    note(x.forget());
    head("heard");
    note(x.fits(0, 9, 0));
    note(x.fits(0, 9, 2));
    note(x.next(0, 9));
    note(x.hear(1));
    note(x.unhear());
    head("ratios");
    for (int n = 2; n <= 7; n++) note(x.agree(0, n, 0, 0));
    note(x.agree(0, 3, 9, 1));
    note(x.ratio(1, 1));
    note(x.unratio());
  }

  private void shelves() {
    for (int shelf = 0; shelf < 6; shelf++) {
      head("shelf " + shelf);
      note(x.taken(shelf, 0));
      note(x.taken(shelf, 1));
      for (int i = 0; i < 6; i++) note(x.element(shelf, i));
      note(x.element(shelf, 59));
      note(x.loudness(shelf, 5));
      // which sort it is
      note(x.place(shelf, 0, 0x123456789abL));
      note(x.element(shelf, 0));
    }
  }

  private void bodies() {
    head("bodies");
    for (int n = 0; n < 8; n++) note(x.act(n, 3, 5));
    note(x.act(199, 3, 5));
    note(x.body(0));
  }

  private void rollAndEars() {
    head("damp");
    note(x.damp(0));
    head("ears");
    for (int ear = 0; ear < 4; ear++) note(x.ear(ear, ear));
    head("roll");
    note(x.roll(0, 1, 0));
    note(x.rolled(0, 120));
    for (int ear = 0; ear < 3; ear++) for (int k = 1; k <= 120; k += 40) note(x.heard(ear, k));
    note(x.heard(0, 120));
  }

  private void history() {
    head("done again");
    for (int k = 0; k < 41 && note(x.redo()) != STATE; k++) note(x.digest());
    head("undone");
    for (int k = 0; k < 41 && note(x.undo()) != STATE; k++) note(x.digest());
  }

  private void tape() {
    head("tape");
    note(x.shape());
    note(x.count(2));
    note(x.digest());
    note(x.feed(4, 0x31313163));
  }
}
