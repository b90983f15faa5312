/** What the tests of the promises share: ways to tell and read more than one byte, and what is due. */
abstract class Checks {
  static final int MIN = Integer.MIN_VALUE;
  static final int MAX = Integer.MAX_VALUE;
  static int wrong = 0;
  static String part = "";

  static void due(long got, long want, String call) {
    if (got != want) { wrong++; System.out.println(part + ": " + call + " answered " + got + ", due is " + want); }
  }

  static void due(boolean got, boolean want, String call) { due(got ? 1 : 0, want ? 1 : 0, call); }

  static void due(String got, String want, String call) {
    if (!got.equals(want)) { wrong++; System.out.println(part + ": " + call + " answered [" + got + "], due is [" + want + "]"); }
  }

  static void ended(String allIsWell) {
    System.out.println(wrong == 0 ? allIsWell : wrong + " answers are not as due");
    if (wrong != 0) System.exit(1);
  }

  // ---- told ----

  static int[] words(String s, int from) {
    int[] v = new int[5];
    for (int k = 0; k < 20; k++) v[k / 4] = v[k / 4] << 8 | (from + k < s.length() ? s.charAt(from + k) : 0);
    return v;
  }

  static void tape(StyleFixes x, String s) {
    x.end(0);
    for (int i = 0; i < s.length(); i += 20) { int[] v = words(s, i); x.feed(v[0], v[1], v[2], v[3], v[4]); }
    x.end(s.length());
  }

  static int text(StyleFixes x, String s) { tape(x, s); return x.text(); }
  static int rules(StyleFixes x, String s) { tape(x, s); return x.rules(); }

  static StyleFixes desk(String text, String rules) {
    StyleFixes x = new StyleFixes();
    due(text(x, text), text.length(), "text() of [" + text + "]");
    if (rules(x, rules) < 0) { wrong++; System.out.println(part + ": rules were not taken: " + rules); }
    return x;
  }

  static void faulty(String rules, int kind, int place) {
    StyleFixes x = new StyleFixes();
    due(rules(x, rules), -1, "rules() of " + rules);
    due(x.fault(0), kind, "fault(0) of " + rules);
    due(x.fault(1), place, "fault(1) of " + rules);
  }

  static void taken(String rules, int count) {
    StyleFixes x = new StyleFixes();
    due(rules(x, rules), count, "rules() of " + rules);
    due(x.fault(0), 0, "fault(0) of " + rules);
    due(x.fault(1), -1, "fault(1) of " + rules);
  }

  // ---- read ----

  static String read(StyleFixes x) {
    StringBuilder b = new StringBuilder();
    int bytes = x.is(0);
    for (int i = 0; i < bytes; i++) b.append((char) x.at(i));
    return b.toString();
  }

  static String later(StyleFixes x, int n) {
    StringBuilder b = new StringBuilder();
    int next = x.later(n, 0);
    for (int i = 1; next != -1; i++) { b.append((char) next); next = x.later(n, i); }
    return b.toString();
  }

  static String fresh(StyleFixes x, int f) {
    StringBuilder b = new StringBuilder();
    int bytes = x.finding(f, 3);
    for (int k = 0; k < bytes; k++) b.append((char) x.fresh(f, k));
    return b.toString();
  }

  static String set(StyleFixes x) {
    StringBuilder b = new StringBuilder();
    int count = x.set(-1);
    for (int i = 0; i < count; i++) b.append(i == 0 ? "" : " ").append(x.set(i));
    return b.toString();
  }

  static String paints(StyleFixes x) {
    StringBuilder b = new StringBuilder();
    int bytes = x.is(0);
    for (int i = 0; i < bytes; i++) { int p = x.paint(i); b.append(p < 0 ? "." : "" + p); }
    return b.toString();
  }

  static String spans(StyleFixes x) {
    StringBuilder b = new StringBuilder();
    int count = x.is(6);
    for (int i = 0; i < count; i++) b.append(i == 0 ? "" : " ").append(x.silenced(i, 0)).append('-').append(x.silenced(i, 1));
    return b.toString();
  }

  static String course(StyleFixes x) {
    StringBuilder b = new StringBuilder();
    for (int what = 0; what < 6; what++) b.append(what == 0 ? "" : " ").append(x.course(what));
    return b.toString();
  }

  /** All that a STEP or THE IMAGE brings back, by what can be asked (the tape and the FAULT aside). */
  static String all(StyleFixes x) {
    StringBuilder b = new StringBuilder();
    for (int what = 0; what <= 15; what++) if (what != 10) b.append(x.is(what)).append(' ');
    b.append('[').append(read(x)).append("] ").append(paints(x)).append(" spans ").append(spans(x)).append(" rules ");
    int rules = x.is(2);
    for (int r = 0; r < rules; r++) b.append(x.rule(r, 0)).append('/').append(x.rule(r, 1)).append('/').append(x.rule(r, 2)).append(' ');
    b.append("yields ");
    int yields = x.is(12);
    for (int i = 0; i < yields; i++) b.append(x.yielding(i)).append(' ');
    b.append("book ");
    int rounds = x.book(-1, 0);
    for (int i = 0; i < rounds; i++) b.append(x.book(i, 0)).append('/').append(x.book(i, 1)).append('/').append(x.book(i, 2)).append(' ');
    b.append("set ").append(set(x)).append(" worth ").append(x.worth()).append(" course ").append(x.course(0)).append(' ').append(x.digest(30));
    return b.append(" cure ").append(x.cure()).append(" steps ").append(x.steps()).toString();
  }
}
