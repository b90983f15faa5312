import java.lang.reflect.Constructor;
import java.lang.reflect.Field;
import java.lang.reflect.Method;
import java.lang.reflect.Modifier;

/** The promises of the document one by one: ordinary inputs, the edges that it names, wrong inputs. */
public final class StyleFixesPromises extends Checks {
  private static void promise(int number) { part = "promise " + number; }
  private static void terms(String what) { part = "terms, " + what; }

  // ---- the face ----

  private static void face() {
    terms("the face");
    due(Modifier.isFinal(StyleFixes.class.getModifiers()), true, "final");
    for (Field f : StyleFixes.class.getDeclaredFields()) {
      boolean constant = f.getName().equals("NONE");
      due(Modifier.isPublic(f.getModifiers()), constant, "field " + f.getName());
      due(Modifier.isPrivate(f.getModifiers()), !constant, "field " + f.getName() + " hidden");
    }
    int open = 0;
    for (Method m : StyleFixes.class.getDeclaredMethods()) {
      if (Modifier.isPublic(m.getModifiers())) open++;
      else due(Modifier.isPrivate(m.getModifiers()), true, "method " + m.getName() + " hidden");
    }
    due(open, 50, "methods of the face");
    due(StyleFixes.class.getDeclaredConstructors().length, 1, "constructors");
    for (Constructor<?> c : StyleFixes.class.getDeclaredConstructors()) due(Modifier.isPublic(c.getModifiers()), true, "constructor");
    due(StyleFixes.NONE, -1, "NONE");
  }

  // ---- promises 1 to 17: what is told ----

  private static void newObject() {
    promise(1);
    StyleFixes x = new StyleFixes();
    int[] first = {0, 0, 0, 0, 0, 0, 0, 0, 20, 0, 0, 0, 0, 0, 1, 0, -1};
    for (int i = 0; i < first.length; i++) due(x.is(i), first[i], "is(" + i + ")");
    text(x, "abc");
    rules(x, "5:wa>");
    x.make(1);
    due(x.back(), 0, "back() to the first image");
    for (int i = 0; i < first.length; i++) due(x.is(i), first[i], "is(" + i + ") behind back()");
    due(x.steps(), 0, "steps() behind back()");
    due(x.book(-1, 0), 0, "book(-1, 0) behind back()");
  }

  private static void feedAndEnd() {
    promise(2);
    StyleFixes x = new StyleFixes();
    int[] v = words("abcdefghijklmnopqrst", 0);
    due(x.feed(v[0], v[1], v[2], v[3], v[4]), 20, "feed");
    x.text();
    due(read(x), "abcdefghijklmnopqrst", "the bytes, the highest of a first");
    for (int i = 1; i <= 15; i++) due(x.feed(v[0], v[1], v[2], v[3], v[4]), 20 * i, "feed " + i);
    due(x.feed(1, 2, 3, 4, 5), -1, "feed beyond 300");
    due(x.is(10), 300, "is(10)");
    due(x.end(281), 281, "end(281)");
    due(x.feed(1, 2, 3, 4, 5), -1, "feed to 301");
    due(x.end(280), 280, "end(280)");
    due(x.feed(1, 2, 3, 4, 5), 300, "feed to 300");
    due(x.steps(), 1, "feed is no step");

    promise(3);
    due(x.end(301), -1, "end(301)");
    due(x.end(-1), -1, "end(-1)");
    due(x.end(MIN), -1, "end(MIN)");
    due(x.end(MAX), -1, "end(MAX)");
    due(x.is(10), 300, "is(10)");
    due(x.end(300), 300, "end(300)");
    due(x.end(3), 3, "end(3)");
    due(x.end(4), -1, "end(4)");
    due(x.text(), 3, "text()");
    due(read(x), "abc", "the first 3 bytes");
    due(x.end(0), 0, "end(0)");
    due(x.end(1), -1, "end(1)");
  }

  private static void textTold() {
    promise(4);
    StyleFixes x = desk("a b", "5:'a'>'b'");
    x.silence(0, 1);
    x.make(1);
    due(text(x, "a a"), 3, "text()");
    due(x.is(6), 0, "nothing is silenced");
    due(x.is(10), 0, "the tape is empty");
    due(text(x, ""), 0, "text() of none");
    due(x.is(0), 0, "is(0)");
    String full = "x".repeat(200);
    due(text(x, full), 200, "text() of 200");
    due(text(x, full + "x"), -1, "text() of 201");
    due(x.is(10), 0, "the tape is empty all the same");
    due(read(x), full, "the text stays");
    for (int b : new int[] {0, 9, 11, 31, 127, 128, 138, 160, 255}) {
      x.feed(b << 24 | 0x616161, 0, 0, 0, 0);
      x.end(2);
      due(x.text(), -1, "text() with byte " + b);
      due(x.is(10), 0, "is(10)");
    }
    for (int b : new int[] {10, 32, 126}) {
      x.feed(b << 24 | 0x616161, 0, 0, 0, 0);
      x.end(2);
      due(x.text(), 2, "text() with byte " + b);
      due(x.at(0), b, "at(0)");
    }
  }

  private static void rulesTold() {
    promise(5);
    taken("", 0);
    taken("1:wa>", 1);
    taken("99:wanbsc_'x'' '>wa~wa+nb-nbsc''", 1);
    taken("007:wa>wa", 1);
    taken("1:wa>;2:na>;3:sa>;4:_>;5:'a'>;6:'1'>' any + bytes, \"or\" none ~'", 6);
    taken("1:wawbwcwdnanb>wawbwcwdnanb", 1);
    StyleFixes x = desk("a b a", "5:'a'>'b'");
    x.on(0, false);
    due(rules(x, "5:'a'>'c';6:wa>"), 2, "rules() in place of those ahead");
    due(x.is(3), 3, "each is on at first");
    x.yields(0, 1);
    due(rules(x, "5:'a'>'c';6:wa>x"), -1, "rules() with a fault");
    due(x.is(10), 0, "the tape is empty");
    due(x.is(2), 2, "a text with a fault is not taken");
    due(x.is(12), 1, "yields stay");
    due(rules(x, "5:'a'>'c';6:wa>"), 2, "rules()");
    due(x.is(12), 0, "no yields, when rules are told");
    due(x.is(10), 0, "the tape is empty");
  }

  private static void faults() {
    promise(6);
    faulty("x", 1, 0);
    faulty(":wa>", 1, 0);
    faulty(" 5:wa>", 1, 0);
    faulty("5", 1, 1);
    faulty("5 :wa>", 1, 1);
    faulty("5:", 1, 2);
    faulty("5:>", 1, 2);
    faulty("5:wa", 1, 4);
    faulty("5:w", 1, 3);
    faulty("5:we>", 1, 3);
    faulty("5:wA>", 1, 3);
    faulty("5:_a>", 1, 3);
    faulty("5:wa >", 1, 4);
    faulty("5:+na>", 1, 2);
    faulty("5:'ab", 1, 5);
    faulty("5:'a\nb'>", 1, 4);
    faulty("5:'a" + (char) 200 + "'>", 1, 4);
    faulty("5:'a" + (char) 127 + "'>", 1, 4);
    faulty("5:wa>_", 1, 5);
    faulty("5:wa>wa>", 1, 7);
    faulty("5:wa>w", 1, 6);
    faulty("5:wa>we", 1, 6);
    faulty("5:na>+", 1, 6);
    faulty("5:na>+wa", 1, 6);
    faulty("5:wa>~na", 1, 6);
    faulty("5:wa>~sa", 1, 6);
    faulty("5:na>+n", 1, 7);
    faulty("5:wa>'ab", 1, 8);
    faulty("5:wa>' \n'", 1, 7);
    faulty("5:wa>;", 1, 6);
    faulty("5:wa>;;", 1, 6);
    faulty(";", 1, 0);
    faulty("0:wa>", 2, 0);
    faulty("00:wa>", 2, 0);
    faulty("100:wa>", 2, 0);
    faulty("99999999999999999999:wa>", 2, 0);
    faulty("0", 2, 0);
    faulty("5:wa>;123x", 2, 6);
    String six = "1:wa>;1:wa>;1:wa>;1:wa>;1:wa>;1:wa>";
    faulty(six + ";1:wa>", 3, 36);
    faulty(six + ";1", 3, 36);
    faulty(six + ";0:wa>", 2, 36);
    faulty(six + ";", 1, 36);
    faulty(six + ";x", 1, 36);
    faulty("5:wawbwcwdnanbsa>", 4, 14);
    faulty("5:wawbwcwdnanb_>", 4, 14);
    faulty("5:wawbwcwdnanb'a b'>", 4, 14);
    faulty("5:wawbwcwdnanb", 1, 14);
    faulty("5:wawbwcwdnanb+>", 1, 14);
    faulty("5:wa>wawawawawawa'", 4, 17);
    faulty("5:wa>wawawawawawawb", 4, 17);
    faulty("5:wa>wawawawawawa~", 4, 17);
    faulty("5:wa>wawawawawawa_", 1, 17);
    faulty("5:wa>wb", 5, 5);
    faulty("5:wa>na", 5, 5);
    faulty("5:wa>sa", 5, 5);
    faulty("5:wa>+na", 5, 6);
    faulty("5:na>~wa", 5, 6);
    faulty("5:na>-nb", 5, 6);
    faulty("5:na>+na;5:wa>+na", 5, 15);
    faulty("5:''>", 6, 2);
    faulty("5:'a1'>", 6, 2);
    faulty("5:'!!'>", 6, 2);
    faulty("5:'a b'>x", 6, 2);
    faulty("5:wa' a'>", 6, 4);
    faulty("5:'a b", 1, 6);
    StyleFixes x = new StyleFixes();
    due(x.fault(0), 0, "fault(0) at first");
    due(x.fault(1), -1, "fault(1) at first");
    rules(x, "5:wa>wb");
    due(x.fault(2), -1, "fault(2)");
    due(x.fault(-1), -1, "fault(-1)");
    text(x, "a");
    x.undo();
    due(x.fault(0), 5, "fault(0) stays behind undo()");
    x.back();
    due(x.fault(1), 5, "fault(1) stays behind back()");
    rules(x, "5:wa>wa");
    due(x.fault(0), 0, "fault(0) behind rules without");
    due(x.fault(1), -1, "fault(1) behind rules without");
  }

  private static void onAndOff() {
    promise(7);
    StyleFixes x = desk("a b", "5:'a'>'b';5:'b'>'a'");
    due(x.on(0, true), false, "on(0, true) when it is so");
    due(x.on(0, false), true, "on(0, false)");
    due(x.on(0, false), false, "on(0, false) again");
    due(x.is(3), 2, "is(3)");
    due(x.is(4), 1, "is(4)");
    due(x.on(0, true), true, "on(0, true)");
    due(x.is(3), 3, "is(3)");
    due(x.on(2, false), false, "on(2, false)");
    due(x.on(-1, true), false, "on(-1, true)");
    due(x.on(MAX, false), false, "on(MAX, false)");
    due(x.on(32, false), false, "on(32, false)");
  }

  private static void silenceAndHear() {
    promise(8);
    StyleFixes x = desk("a a a", "5:'a'>'b'");
    due(x.silence(0, 1), 1, "silence(0, 1)");
    due(x.silence(0, 1), 2, "silence(0, 1) again");
    due(x.silence(0, 5), 3, "silence(0, 5)");
    due(x.silence(2, 2), -1, "silence(2, 2)");
    due(x.silence(3, 2), -1, "silence(3, 2)");
    due(x.silence(-1, 2), -1, "silence(-1, 2)");
    due(x.silence(4, 6), -1, "silence(4, 6)");
    due(x.silence(MIN, MAX), -1, "silence(MIN, MAX)");
    for (int i = 4; i <= 8; i++) due(x.silence(4, 5), i, "silence(4, 5)");
    due(x.silence(4, 5), -1, "a ninth silence(4, 5)");
    due(x.is(6), 8, "is(6)");

    promise(9);
    x = desk("a a a", "5:'a'>'b'");
    x.silence(0, 1);
    x.silence(2, 3);
    x.silence(4, 5);
    due(x.is(5), 3, "is(5)");
    due(x.hear(1), true, "hear(1)");
    due(x.is(5), 2, "is(5)");
    due(x.silenced(0, 0), 0, "silenced(0, 0)");
    due(x.silenced(1, 0), 4, "silenced(1, 0)");
    due(x.silenced(1, 1), 5, "silenced(1, 1)");
    due(x.hear(2), false, "hear(2)");
    due(x.hear(-1), false, "hear(-1)");
    due(x.hear(MAX), false, "hear(MAX)");
    due(x.hear(0), true, "hear(0)");
    due(x.hear(0), true, "hear(0)");
    due(x.hear(0), false, "hear(0) of none");
  }

  private static void measureAndMost() {
    promise(10);
    StyleFixes x = desk("abc de", "10:wa>~wa;1:wa_wb>wb");
    due(x.finding(0, 4), 10, "by weight");
    due(x.measure(1), true, "measure(1)");
    due(x.is(7), 1, "is(7)");
    due(x.finding(0, 4), 333, "10 * 100 / 3");
    due(x.finding(1, 4), 16, "1 * 100 / 6");
    due(x.measure(2), false, "measure(2)");
    due(x.measure(-1), false, "measure(-1)");
    due(x.is(7), 1, "is(7)");
    due(x.measure(1), true, "measure(1) again");
    due(x.measure(0), true, "measure(0)");
    due(x.finding(1, 4), 1, "by weight again");
    x = desk("x".repeat(200), "1:wa>");
    x.measure(1);
    due(x.finding(0, 4), 0, "1 * 100 / 200 toward 0");
    due(x.set(-1), 0, "a finding of no value is one too many");

    promise(11);
    x = desk("a a a", "5:'a'>'b'");
    due(x.most(2), true, "most(2)");
    due(x.is(8), 2, "is(8)");
    due(set(x), "0 1", "the set");
    due(x.most(0), true, "most(0)");
    due(set(x), "", "the set");
    due(x.most(21), false, "most(21)");
    due(x.most(-1), false, "most(-1)");
    due(x.is(8), 0, "is(8)");
    due(x.most(20), true, "most(20)");
    due(set(x), "0 1 2", "the set");
    x = desk("!".repeat(25), "5:sa>'.'");
    due(x.set(-1), 20, "no more than 20");
    due(x.is(4), 25, "of 25");
    due(x.set(19), 19, "the lesser ones");
  }

  private static void bytePut() {
    promise(12);
    StyleFixes x = desk("a b a", "5:'a'>'c'");
    x.make(1);
    due(paints(x), "0...0", "paints");
    due(x.put(0, 'x'), true, "put(0, x)");
    due(read(x), "x b c", "the text");
    due(paints(x), "....0", "a byte that is told has no paint");
    x.silence(2, 3);
    due(x.put(2, 'x'), false, "put(2, x), silenced");
    due(x.put(1, 10), true, "put(1, 10)");
    due(x.put(1, 32), true, "put(1, 32)");
    due(x.put(1, 126), true, "put(1, 126)");
    for (int b : new int[] {-1, 0, 9, 11, 31, 127, 266, 288, MIN, MAX}) due(x.put(1, b), false, "put(1, " + b + ")");
    due(x.put(-1, 'x'), false, "put(-1, x)");
    due(x.put(5, 'x'), false, "put(5, x)");
    due(x.put(MAX, 'x'), false, "put(MAX, x)");
    due(x.is(0), 5, "is(0)");
    due(x.put(4, 'c'), true, "put(4, c), as it is");
    due(x.paint(4), -1, "paint(4)");
  }

  private static void yieldsTold() {
    promise(13);
    StyleFixes x = desk("a", "1:wa>;1:wa>;1:wa>;1:wa>;1:wa>;1:wa>");
    due(x.yields(0, 1), true, "yields(0, 1)");
    due(x.yields(0, 1), false, "told already");
    due(x.yields(1, 0), false, "the other way round");
    due(x.yields(1, 2), true, "yields(1, 2)");
    due(x.yields(2, 0), false, "two YIELDS round");
    due(x.yields(2, 3), true, "yields(2, 3)");
    due(x.yields(3, 0), false, "three YIELDS round");
    due(x.yields(0, 3), true, "yields(0, 3)");
    due(x.yields(2, 2), false, "yields(2, 2)");
    due(x.yields(6, 0), false, "yields(6, 0)");
    due(x.yields(0, 6), false, "yields(0, 6)");
    due(x.yields(-1, 0), false, "yields(-1, 0)");
    due(x.yields(0, MIN), false, "yields(0, MIN)");
    due(x.yields(0, 4), true, "yields(0, 4)");
    due(x.yields(0, 5), true, "yields(0, 5)");
    due(x.yields(1, 4), true, "yields(1, 4)");
    due(x.yields(1, 5), true, "yields(1, 5)");
    due(x.yields(2, 5), false, "a ninth");
    due(x.is(12), 8, "is(12)");

    promise(14);
    due(x.insist(), 8, "insist()");
    due(x.is(12), 0, "is(12)");
    due(x.insist(), 0, "insist() of none");
    due(x.yields(1, 0), true, "yields(1, 0) now");
  }

  private static void appliedAlone() {
    promise(15);
    StyleFixes x = desk("a b a", "5:'a'>'ccc';9:'b'>'';2:wa_wb>wb");
    x.silence(4, 5);
    x.yields(0, 2);
    due(x.is(4), 5, "is(4)");
    due(x.finding(1, 0), 2, "finding(1, 0)");
    due(x.finding(1, 7), 1, "finding 1 is yielded");
    due(x.finding(3, 5), 1, "finding 3 is silent");
    due(x.apply(3), -1, "apply(3), silent");
    due(x.apply(5), -1, "apply(5)");
    due(x.apply(-1), -1, "apply(-1)");
    due(x.apply(0), 7, "apply(0)");
    due(read(x), "ccc b a", "the text");
    due(paints(x), "000....", "paints");
    due(x.silenced(0, 0), 6, "a silenced span goes along");
    due(x.silenced(0, 1), 7, "a silenced span goes along");
    due(x.is(9), 0, "no round");
    due(x.book(-1, 0), 0, "no round in the book");
    x.undo();
    due(x.apply(1), 3, "apply(1), yielded, can be");
    due(read(x), "b a", "the text");
    x = desk("x".repeat(100), "5:wa>wawa");
    due(x.apply(0), 200, "apply(0) to 200");
    due(x.apply(0), -1, "apply(0) beyond 200");
    due(x.is(0), 200, "is(0)");
    x = desk("x".repeat(100) + " ", "5:wa_>wawa");
    due(x.apply(0), 200, "apply(0) from 101 to 200");
    x = desk("x".repeat(101), "5:wa>wawa");
    due(x.apply(0), -1, "apply(0) to 202");
    due(x.steps(), 2, "what can't be is no step");
  }

  private static void roundsMade() {
    promise(16);
    StyleFixes x = desk("9 a a", "5:na>+na;7:wa_wa>wa");
    due(x.make(0), -1, "make(0)");
    due(x.make(31), -1, "make(31)");
    due(x.make(-1), -1, "make(-1)");
    due(x.make(MIN), -1, "make(MIN)");
    due(x.is(9), 0, "is(9)");
    due(x.make(1), 1, "make(1)");
    due(read(x), "10 a", "the text");
    due(paints(x), "00.1", "paints");
    due(x.make(30), 30, "make(30)");
    due(read(x), "40 a", "the text");
    due(x.is(9), 31, "is(9)");
    x.on(0, false);
    due(x.make(5), 0, "make(5) of a still text");
    x = desk("xx", "5:wa>wawa");
    due(x.make(30), 6, "make(30) till it stops");
    due(x.is(0), 128, "is(0)");
    due(x.make(30), 0, "make(30) when it has stopped");
    x = desk("x".repeat(50), "5:wa>wawa");
    due(x.make(30), 2, "200 bytes can be");
    due(x.is(0), 200, "is(0)");
    x = desk("a,b", "5:'a'>'';5:'b'>'c'");
    x.silence(1, 2);
    due(x.make(3), 1, "make(3)");
    due(read(x), ",c", "the text");
    due(x.silenced(0, 0), 0, "silenced(0, 0)");
    due(x.silenced(0, 1), 1, "silenced(0, 1)");
  }

  private static void stepsTakenBack() {
    promise(17);
    StyleFixes x = new StyleFixes();
    due(x.undo(), -1, "undo() of none");
    x = desk("a b", "5:'a'>'cc';4:'b'>'d'");
    x.on(0, false);
    x.on(0, true);
    x.silence(2, 3);
    x.hear(0);
    x.measure(1);
    x.most(1);
    x.yields(0, 1);
    x.insist();
    x.make(3);
    x.put(0, 'z');
    due(x.steps(), 12, "steps()");
    due(read(x), "zc d", "the text");
    due(x.undo(), 11, "undo() of put");
    due(read(x), "cc d", "the text");
    text(x, "b");
    x.undo();
    due(read(x), "cc d", "the text behind a text told and taken back");
    due(paints(x), "00.1", "paints");
    x.undo();
    due(read(x), "a b", "the text behind rounds taken back together");
  }

  private static void stepsOneByOne() {
    promise(17);
    StyleFixes x = desk("a b", "5:'a'>'cc';4:'b'>'d'");
    x.on(0, false);
    due(x.undo(), 2, "undo() of on");
    due(x.is(3), 3, "is(3)");
    x.silence(2, 3);
    x.hear(0);
    due(x.undo(), 3, "undo() of hear");
    due(x.is(6), 1, "is(6)");
    due(x.undo(), 2, "undo() of silence");
    due(x.is(6), 0, "is(6)");
    x.measure(1);
    due(x.undo(), 2, "undo() of measure");
    due(x.is(7), 0, "is(7)");
    x.most(1);
    due(x.undo(), 2, "undo() of most");
    due(x.is(8), 20, "is(8)");
    x.yields(0, 1);
    x.insist();
    due(x.undo(), 3, "undo() of insist");
    due(x.yielding(0), 1, "yielding(0)");
    due(x.undo(), 2, "undo() of yields");
    due(x.is(12), 0, "is(12)");
    x.make(5);
    due(read(x), "cc d", "the text");
    due(x.undo(), 2, "undo() of make");
    due(read(x), "a b", "the text");
    due(paints(x), "...", "paints");
    due(x.is(9), 0, "is(9)");
    due(x.book(-1, 0), 0, "book(-1, 0)");
    x.apply(0);
    due(x.undo(), 2, "undo() of apply");
    due(read(x), "a b", "the text");
    x.put(0, 'x');
    due(x.undo(), 2, "undo() of put");
    due(read(x), "a b", "the text");
    tape(x, "xyz");
    due(x.undo(), 1, "undo() of rules");
    due(x.is(10), 3, "the tape stays");
    due(x.is(2), 0, "is(2)");
    due(x.undo(), 0, "undo() of text");
    due(x.is(0), 0, "is(0)");
    due(x.undo(), -1, "undo() of none");

    promise(51);
    x = desk("a", "5:'a'>'b'");
    due(x.steps(), 2, "steps()");
    for (int i = 3; i <= 30; i++) {
      x.most(i % 20);
      due(x.steps(), Math.min(20, i), "steps()");
    }
    for (int i = 19; i >= 0; i--) due(x.undo(), i, "undo()");
    due(x.undo(), -1, "undo() of the 21st");
    due(x.is(8), 10, "most as ahead of the latest 20");
    due(x.is(2), 1, "what is older stays");
    x = desk("a", "5:'a'>'b'");
    x.most(99);
    x.measure(9);
    x.on(0, true);
    x.silence(5, 5);
    x.hear(3);
    x.put(0, 0);
    x.yields(0, 0);
    x.apply(7);
    x.make(99);
    text(x, "\t");
    rules(x, "x");
    x.image();
    x.is(4);
    x.cure();
    due(x.steps(), 2, "what is refused, or asked, is no step");
    x.make(1);
    due(x.steps(), 3, "rounds made are a step");
    x.most(20);
    x.measure(0);
    x.put(0, 'b');
    due(x.steps(), 6, "what is told anew is a step");
  }

  private static void stepsThatChangeNothing() {
    promise(14);
    StyleFixes x = new StyleFixes();
    due(x.insist(), 0, "insist() of none");
    due(x.steps(), 1, "insist() of none is a step");
    due(x.undo(), 0, "undo() of it");
    due(x.undo(), -1, "undo() of none");

    promise(16);
    due(x.make(0), -1, "make(0)");
    due(x.make(31), -1, "make(31)");
    due(x.steps(), 0, "make that is refused is no step");
    due(x.make(30), 0, "make(30) without findings");
    due(x.steps(), 1, "make of no round is a step");
    x = desk("a b", "5:'a'>'c'");
    due(x.make(9), 1, "make(9)");
    due(x.make(9), 0, "make(9) of a still text");
    due(x.steps(), 4, "steps()");
    due(x.undo(), 3, "undo() of no round");
    due(read(x), "c b", "the round made ahead stays");
    due(x.is(9), 1, "is(9)");
    due(x.undo(), 2, "undo() of the round");
    due(read(x), "a b", "the text");
    x = desk("x".repeat(101), "5:wa>wawa");
    due(x.make(1), 0, "make(1) when it has stopped");
    due(x.steps(), 3, "make of no round is a step");

    promise(17);
    x.on(0, false);
    for (int i = 0; i < 20; i++) x.make(1);
    due(x.steps(), 20, "steps()");
    for (int i = 0; i < 20; i++) x.undo();
    due(x.is(3), 0, "makes of no round drive older steps out");
    due(x.undo(), -1, "undo() of none");
  }

  // ---- promises 18 to 40: what is asked ----

  private static void counts() {
    promise(18);
    StyleFixes x = desk("ab 12\n(c]", "5:wa>~wa;9:wa_na>na;3:na>+na");
    x.yields(1, 2);
    x.silence(8, 9);
    x.feed(0, 0, 0, 0, 0);
    x.most(7);
    x.measure(1);
    int[] want = {9, 7, 3, 7, 3, 0, 1, 1, 7, 0, 20, 1, 1, 2, 2, 5};
    for (int i = 0; i < want.length; i++) due(x.is(i), want[i], "is(" + i + ")");
    due(x.is(16), -1, "is(16)");
    due(x.is(-1), -1, "is(-1)");
    due(x.is(MAX), -1, "is(MAX)");
    x.silence(3, 4);
    due(x.is(5), 2, "is(5)");
    due(x.is(11), 0, "a silent finding is yielded to by none");
    x = desk("\n\nab\n", "");
    due(x.is(14), 4, "is(14)");
    due(x.is(15), 2, "is(15)");
    x = desk("\n", "");
    due(x.is(14), 2, "is(14)");
    due(x.is(15), 0, "is(15)");
  }

  private static void bytesAndTokens() {
    promise(19);
    StyleFixes x = desk("ab1 \n2,;Zz", "");
    due(x.at(0), 'a', "at(0)");
    due(x.at(4), 10, "at(4)");
    due(x.at(9), 'z', "at(9)");
    for (int i : new int[] {-1, 10, 199, 200, MIN, MAX}) due(x.at(i), -1, "at(" + i + ")");

    promise(20);
    int[][] want = {{0, 0, 2}, {1, 2, 1}, {2, 3, 2}, {1, 5, 1}, {3, 6, 1}, {3, 7, 1}, {3, 8, 1}, {0, 9, 1}};
    due(x.is(1), want.length, "is(1)");
    for (int t = 0; t < want.length; t++) {
      for (int k = 0; k < 3; k++) due(x.token(t, k), want[t][k], "token(" + t + ", " + k + ")");
    }
    due(x.token(0, 3), -1, "token(0, 3)");
    due(x.token(0, -1), -1, "token(0, -1)");
    due(x.token(-1, 0), -1, "token(-1, 0)");
    due(x.token(8, 0), -1, "token(8, 0)");
    due(x.token(MAX, 2), -1, "token(MAX, 2)");
    x = desk("!".repeat(200), "");
    due(x.token(199, 1), 199, "token(199, 1)");
    due(x.token(199, 2), 1, "token(199, 2)");
    due(x.token(200, 1), -1, "token(200, 1)");

    promise(21);
    x = desk("ab1 \n2,;Zz", "");
    int[] in = {0, 0, 1, 2, 2, 3, 4, 5, 6, 7};
    for (int i = 0; i < in.length; i++) due(x.tokenAt(i), in[i], "tokenAt(" + i + ")");
    for (int i : new int[] {-1, 10, MIN, MAX}) due(x.tokenAt(i), -1, "tokenAt(" + i + ")");
  }

  private static void ofRules() {
    promise(22);
    StyleFixes x = desk("a a b", "42:wa_wa>wa;7:'b'>'';99:wanbsc_'x'' '>wa~wa+nb-nbsc''");
    x.on(1, false);
    int[][] want = {{42, 3, 1, 1, 1}, {7, 1, 1, 0, 0}, {99, 6, 6, 1, 0}};
    for (int r = 0; r < 3; r++) {
      for (int k = 0; k < 5; k++) due(x.rule(r, k), want[r][k], "rule(" + r + ", " + k + ")");
    }
    due(x.rule(0, 5), -1, "rule(0, 5)");
    due(x.rule(0, -1), -1, "rule(0, -1)");
    due(x.rule(3, 0), -1, "rule(3, 0)");
    due(x.rule(-1, 0), -1, "rule(-1, 0)");
    x.silence(0, 1);
    due(x.rule(0, 4), 1, "silent findings are findings");
    due(rules(x, "1:wa>;"), -1, "rules()");
    due(x.rule(0, 2), 1, "rule(0, 2)");
    due(rules(x, "1:wa>"), 1, "rules()");
    due(x.rule(0, 2), 0, "rule(0, 2)");

    promise(23);
    x = desk("a a b 1 1 2", "1:wa_wa>wa;2:wa_wb>;3:na_na>;4:'b'' '>;5:nawa>");
    x.on(0, false);
    due(x.fits(0, 0), true, "fits(0, 0), off");
    due(x.fits(0, 2), false, "fits(0, 2), unlike bytes");
    due(x.fits(1, 0), true, "fits(1, 0), other names may be like");
    due(x.fits(1, 2), true, "fits(1, 2)");
    due(x.fits(2, 6), true, "fits(2, 6)");
    due(x.fits(2, 8), false, "fits(2, 8)");
    due(x.fits(2, 10), false, "fits(2, 10), no more tokens");
    due(x.fits(3, 4), true, "fits(3, 4)");
    due(x.fits(3, 0), false, "fits(3, 0)");
    due(x.fits(4, 6), false, "fits(4, 6)");
    for (int i : new int[] {-1, 11, MIN, MAX}) due(x.fits(1, i), false, "fits(1, " + i + ")");
    due(x.fits(5, 0), false, "fits(5, 0)");
    due(x.fits(-1, 0), false, "fits(-1, 0)");

    promise(31);
    due(x.span(0, 0), 3, "span(0, 0), off");
    due(x.span(3, 4), 2, "span(3, 4)");
    due(x.span(0, 2), -1, "span(0, 2)");
    due(x.span(2, 10), -1, "span(2, 10)");
    due(x.span(5, 0), -1, "span(5, 0)");
    due(x.span(-1, 0), -1, "span(-1, 0)");
    due(x.span(1, -1), -1, "span(1, -1)");
    due(x.span(1, MAX), -1, "span(1, MAX)");
    x = desk("word", "1:wa>wa");
    due(x.is(4), 0, "no finding of what stays the same");
    due(x.fits(0, 0), true, "but it fits");
    due(x.span(0, 0), 4, "span(0, 0)");
  }

  private static void ofFindings() {
    promise(24);
    StyleFixes x = desk("aa b", "3:wa_wb>wb;5:wa>;4:'aa'>'xyz'");
    x.silence(3, 4);
    x.yields(1, 2);
    // by beginning, end, rule: "aa" by 1, "aa" by 2, "aa b" by 0, "b" by 1
    int[][] want = {
      {1, 0, 2, 0, 5, 0, 1, 0}, {2, 0, 2, 3, 4, 0, 0, 1}, {0, 0, 4, 1, 3, 1, 0, 0}, {1, 3, 4, 0, 5, 1, 0, 0}
    };
    due(x.is(4), 4, "is(4)");
    for (int f = 0; f < 4; f++) {
      for (int k = 0; k < 8; k++) due(x.finding(f, k), want[f][k], "finding(" + f + ", " + k + ")");
    }
    due(x.finding(0, 8), -1, "finding(0, 8)");
    due(x.finding(0, -1), -1, "finding(0, -1)");
    due(x.finding(4, 0), -1, "finding(4, 0)");
    due(x.finding(-1, 0), -1, "finding(-1, 0)");
    due(x.finding(MAX, 0), -1, "finding(MAX, 0)");

    promise(25);
    due(fresh(x, 1), "xyz", "what stands in its place");
    due(x.fresh(1, 3), -1, "fresh(1, 3)");
    due(x.fresh(1, -1), -1, "fresh(1, -1)");
    due(x.fresh(0, 0), -1, "fresh(0, 0) of none");
    due(x.fresh(4, 0), -1, "fresh(4, 0)");
    due(x.fresh(-1, 0), -1, "fresh(-1, 0)");
    x = desk("abc007!", "1:wanasa>~wa'-'+na-nasawa");
    due(fresh(x, 0), "cba-86!abc", "all kinds of parts");
    x = desk("999999999 000 000000000 0000000001 1", "1:na>+na'/'-na");
    due(fresh(x, 0), "1000000000/999999998", "nine digits");
    due(fresh(x, 1), "1/0", "zeros");
    due(fresh(x, 2), "1/0", "nine zeros");
    due(fresh(x, 3), "0000000001/0000000001", "ten digits: its bytes");
    due(fresh(x, 4), "2/0", "one");
    x = desk("1234567890", "1:na>+na");
    due(x.is(4), 0, "ten digits stay the same");
    x = desk("x".repeat(200), "1:wa>wawawawawawa");
    due(x.finding(0, 3), 1200, "finding(0, 3)");
    due(x.fresh(0, 1199), 'x', "fresh(0, 1199)");
    due(x.fresh(0, 1200), -1, "fresh(0, 1200)");
    due(x.course(0), 2, "it is stopped");

    promise(26);
    x = desk("a b c d", "1:wa>~wa'.';1:wa_wb>wb;1:wa_wb_wc>wc");
    // 0 a, 1 a_b, 2 a_b_c, 3 b, 4 b_c, 5 b_c_d, 6 c, 7 c_d, 8 d
    due(x.clashes(0), 2, "clashes(0)");
    due(x.clashes(1), 5, "clashes(1)");
    due(x.clashes(4), 6, "clashes(4)");
    due(x.clashes(8), 2, "clashes(8)");
    x.silence(0, 1);
    due(x.clashes(4), 4, "silent ones aside");
    due(x.clashes(0), 0, "of a silent one");
    due(x.clashes(9), -1, "clashes(9)");
    due(x.clashes(-1), -1, "clashes(-1)");
  }

  private static void theSet() {
    promise(27);
    StyleFixes x = desk("a b c", "4:wa_wb>wb;3:wa>'z'");
    // 0 a, 1 a_b, 2 b, 3 b_c, 4 c: a and b and c are worth 9
    due(set(x), "0 2 4", "the greatest value");
    x.most(2);
    due(set(x), "0 3", "of like ones the lesser finding where they first differ");
    due(x.worth(), 7, "worth()");
    x.most(1);
    due(set(x), "1", "one of two like ones");
    due(x.set(1), -1, "set(1)");
    due(x.set(-2), -1, "set(-2)");
    due(x.set(MAX), -1, "set(MAX)");
    due(x.set(MIN), -1, "set(MIN)");
    x = desk("a b", "6:wa_wb>wb;3:wa>'z'");
    due(set(x), "1", "of like ones the fewest");
    x = desk("a b a b", "9:'a'>'c';1:'b'>'c'");
    x.silence(0, 1);
    due(set(x), "1 2 3", "silent ones aside");
    x.hear(0);
    x = desk("a b", "9:wa_wb>wb;1:'a'>'c'");
    x.yields(1, 0);
    due(set(x), "0", "yielded ones aside");
    due(x.chosen(0), 0, "chosen(0)");
    due(x.chosen(1), 1, "chosen(1)");

    promise(28);
    x = desk("a b a", "9:'a'>'c';1:'b'>'c'");
    due(x.worth(), 19, "worth()");
    x.measure(1);
    due(x.worth(), 1900, "worth() by bytes");
    x.most(0);
    due(x.worth(), 0, "worth() of none");

    promise(29);
    x.most(20);
    due(x.chosen(0), 2, "chosen(0)");
    due(x.chosen(1), 1, "chosen(1)");
    due(x.chosen(2), -1, "chosen(2)");
    due(x.chosen(-1), -1, "chosen(-1)");
    x.on(0, false);
    due(x.chosen(0), 0, "chosen(0), off");

    promise(30);
    due(x.without(0), 100, "without(0), off");
    x.on(0, true);
    due(x.without(0), 100, "without(0)");
    due(x.without(1), 1800, "without(1)");
    due(x.without(2), -1, "without(2)");
    due(x.without(-1), -1, "without(-1)");
    due(x.is(3), 3, "nothing is changed");
    due(x.worth(), 1900, "worth()");
    x = desk("a b", "9:wa_wb>wb;1:'a'>'c'");
    x.yields(1, 0);
    due(x.worth(), 1, "worth()");
    due(x.without(1), 9, "a rule that is off has no findings to yield to");
  }

  private static void spansAndPaints() {
    promise(32);
    StyleFixes x = desk("a b a", "5:'b'>'long'");
    x.silence(4, 5);
    x.silence(0, 1);
    due(x.silenced(0, 0), 4, "silenced(0, 0), as told");
    due(x.silenced(0, 1), 5, "silenced(0, 1)");
    due(x.silenced(1, 0), 0, "silenced(1, 0)");
    due(x.silenced(1, 1), 1, "silenced(1, 1)");
    due(x.silenced(0, 2), -1, "silenced(0, 2)");
    due(x.silenced(0, -1), -1, "silenced(0, -1)");
    due(x.silenced(2, 0), -1, "silenced(2, 0)");
    due(x.silenced(-1, 0), -1, "silenced(-1, 0)");
    x.make(1);
    due(x.silenced(0, 0), 7, "it goes along");
    due(x.silenced(0, 1), 8, "it goes along");
    due(x.silenced(1, 0), 0, "it stays");

    promise(33);
    for (int i = 0; i < 8; i++) due(x.isSilent(i), i == 0 || i == 7, "isSilent(" + i + ")");
    for (int i : new int[] {-1, 8, MIN, MAX}) due(x.isSilent(i), false, "isSilent(" + i + ")");

    promise(34);
    x = desk("a", "1:wa>;1:wa>;1:wa>;1:wa>;1:wa>;1:wa>");
    x.yields(5, 4);
    x.yields(0, 3);
    due(x.yielding(0), 54, "yielding(0)");
    due(x.yielding(1), 3, "yielding(1)");
    for (int i : new int[] {-1, 2, 8, MIN, MAX}) due(x.yielding(i), -1, "yielding(" + i + ")");

    promise(35);
    x = desk("a b c", "5:'b'>'xy';4:'c'>'c!'");
    due(paints(x), ".....", "paints at first");
    x.make(1);
    due(paints(x), "..00.11", "paints");
    for (int i : new int[] {-1, 7, MIN, MAX}) due(x.paint(i), -1, "paint(" + i + ")");

    promise(36);
    due(x.painted(0), 2, "painted(0)");
    due(x.painted(1), 2, "painted(1)");
    due(x.painted(2), -1, "painted(2)");
    due(x.painted(-1), -1, "painted(-1)");
    rules(x, "1:'xy'>'q'");
    due(x.paint(5), 1, "a paint stays when rules are told");
    x.make(1);
    due(paints(x), "..0.11", "paints");
    text(x, "q");
    due(paints(x), ".", "a text that is told has none");
  }

  private static void theBook() {
    promise(37);
    StyleFixes x = desk("1 a a", "5:na>+na;7:wa_wa>");
    due(x.book(-1, 0), 0, "book(-1, 0)");
    due(x.book(0, 0), -2, "book(0, 0)");
    x.make(2);
    due(x.book(-1, 0), 2, "book(-1, 0)");
    int[][] want = {{2, 12, 2}, {1, 5, 2}};
    for (int i = 0; i < 2; i++) {
      for (int k = 0; k < 3; k++) due(x.book(i, k), want[i][k], "book(" + i + ", " + k + ")");
    }
    due(x.book(0, 3), -2, "book(0, 3)");
    due(x.book(0, -1), -2, "book(0, -1)");
    due(x.book(2, 0), -2, "book(2, 0)");
    due(x.book(-2, 0), -2, "book(-2, 0)");
    due(x.book(MIN, 0), -2, "book(MIN, 0)");
    x.make(22);
    due(x.book(-1, 0), 24, "book(-1, 0)");
    due(x.book(0, 0), 2, "the eldest of 24");
    x.make(1);
    due(x.book(-1, 0), 24, "no more than 24");
    due(x.book(0, 0), 1, "the eldest has gone");
    due(x.book(23, 1), 5, "the latest");
    due(x.is(9), 25, "is(9)");
    x.undo();
    due(x.book(0, 0), 2, "the eldest is back");
    due(x.is(9), 24, "is(9)");
  }

  private static void wordsBracketsLines() {
    promise(38);
    StyleFixes x = desk("b a b a c 1 1 1", "");
    due(x.common(0), 0, "the first of like ones");
    due(x.common(1), 2, "common(1)");
    due(x.common(2), -1, "common(2)");
    due(x.common(-1), -1, "common(-1)");
    text(x, "c a b b ab");
    due(x.common(0), 4, "common(0)");
    due(x.common(1), 2, "common(1)");
    text(x, "1 , 2");
    due(x.common(0), -1, "no words");
    due(x.common(1), -1, "no words");

    promise(39);
    text(x, "([)]{a}) } (");
    int[] want = {7, 3, -1, 1, 6, -1, 4, 0, -1, -1, -1, -1};
    for (int i = 0; i < want.length; i++) due(x.paired(i), want[i], "paired(" + i + ")");
    due(x.is(13), 3, "is(13)");
    for (int i : new int[] {-1, 12, MIN, MAX}) due(x.paired(i), -1, "paired(" + i + ")");
    text(x, "(".repeat(100) + ")".repeat(100));
    due(x.paired(0), 199, "paired(0)");
    due(x.paired(100), 99, "paired(100)");
    due(x.is(13), 0, "is(13)");

    promise(40);
    text(x, "ab\n\nc\n");
    int[] lines = {0, 0, 0, 1, 2, 2};
    int[] ahead = {0, 1, 2, 0, 0, 1};
    for (int i = 0; i < lines.length; i++) {
      due(x.line(i, 0), lines[i], "line(" + i + ", 0)");
      due(x.line(i, 1), ahead[i], "line(" + i + ", 1)");
    }
    due(x.line(0, 2), -1, "line(0, 2)");
    due(x.line(0, -1), -1, "line(0, -1)");
    due(x.line(6, 0), -1, "line(6, 0)");
    due(x.line(-1, 1), -1, "line(-1, 1)");
  }

  // ---- promises 41 to 50: what would be, what was ----

  private static void theCourse() {
    promise(41);
    // first c goes, then a and b turn into one another
    StyleFixes x = desk("a c", "1:'a'>'b';1:'b'>'a';9:'c'>''");
    x.most(1);
    due(x.circling(), 3, "circling()");
    due(x.used(), 7, "used()");

    promise(42);
    int[] want = {1, 3, 1, 2, 2, 3};
    for (int i = 0; i < want.length; i++) due(x.course(i), want[i], "course(" + i + ")");
    due(x.course(6), -1, "course(6)");
    due(x.course(-1), -1, "course(-1)");
    due(read(x), "a c", "nothing is changed");
    due(x.is(9), 0, "no rounds made");
    x = desk("a c", "9:'c'>''");
    int[] still = {0, 1, -1, -1, 2, 1};
    for (int i = 0; i < still.length; i++) due(x.course(i), still[i], "course(" + i + ")");
    due(x.circling(), 0, "circling()");
    x = desk("xx", "5:wa>wawa");
    int[] stopped = {2, 6, -1, -1, 128, 6};
    for (int i = 0; i < stopped.length; i++) due(x.course(i), stopped[i], "course(" + i + ")");
    x = desk("0", "5:na>+na");
    int[] on = {3, 30, -1, -1, 2, 30};
    for (int i = 0; i < on.length; i++) due(x.course(i), on[i], "course(" + i + ")");
    x = desk("30", "5:na>-na");
    due(x.course(0), 0, "still behind 30 rounds is still");
    due(x.course(1), 30, "30 rounds");
    x = desk("x,", "5:'x'>'';5:','>'x,'");
    due(x.course(0), 1, "one round that goes round");
    due(x.course(1), 1, "course(1)");
    due(x.course(3), 1, "course(3)");
    x = desk("(x!x!x!)", "5:'(''x''!'>'(';5:'!'')'>'!x!)'");
    due(x.course(0), 1, "what is taken ahead is put behind");
    due(x.course(1), 1, "course(1)");
    x.silence(3, 4);
    due(x.digest(1), x.digest(0), "the text is the same again");
    due(x.course(0), 3, "but its silenced span is not");
    due(x.course(1), 30, "course(1)");
    x = desk("a a", "5:'a'>'b';4:'b'>'a'");
    x.make(1);
    due(x.course(0), 1, "paints aside");
    due(x.course(1), 2, "course(1)");

    promise(43);
    x = desk("0 a", "5:na>+na;5:'a'>''");
    due(later(x, 0), "0 a", "later(0)");
    due(later(x, 1), "1 ", "later(1)");
    due(later(x, 30), "30 ", "later(30)");
    due(x.later(31, 0), -1, "later(31, 0)");
    due(x.later(-1, 0), -1, "later(-1, 0)");
    due(x.later(1, 2), -1, "later(1, 2)");
    due(x.later(1, -1), -1, "later(1, -1)");
    due(x.later(0, MAX), -1, "later(0, MAX)");
    x = desk("a c", "9:'c'>''");
    due(later(x, 1), "a ", "later(1)");
    due(later(x, 30), "a ", "no more rounds than there are");

    promise(44);
    due(x.digest(0), "a c".hashCode(), "digest(0)");
    due(x.digest(1), "a ".hashCode(), "digest(1)");
    due(x.digest(30), "a ".hashCode(), "digest(30)");
    due(x.digest(31), 0, "digest(31)");
    due(x.digest(-1), 0, "digest(-1)");
    x = desk("zyxwvu ~~ 12345", "");
    due(x.digest(0), "zyxwvu ~~ 12345".hashCode(), "digest(0), going round");

    promise(45);
    x = desk("a", "1:'a'>'b';1:'b'>'c';1:'z'>'a'");
    due(x.used(), 3, "used()");
    due(x.circling(), 0, "circling()");
    x.on(1, false);
    due(x.used(), 1, "used()");
  }

  private static void theCure() {
    promise(46);
    StyleFixes x = desk("a", "1:'a'>'b';1:'b'>'a'");
    due(x.cure(), 1, "the least bits of like ones");
    x.on(0, false);
    due(x.cure(), 0, "none is needed");
    x = desk("0 1", "1:na>+na;1:na>na'0'");
    due(x.cure(), 3, "both");
    x = desk("0 xx", "1:'q'>'r';1:na>+na;1:wa>wawa");
    due(x.cure(), 6, "two of three");
    due(x.is(3), 7, "nothing is changed");
    x = desk("0", "1:'q'>'r';9:na>+na");
    due(x.cure(), 2, "the fewest, not the least bits");
    due(x.course(0), 3, "the course is as it was");
    due(x.cure(), 2, "asked again");
    x = new StyleFixes();
    due(x.cure(), 0, "without rules");
  }

  private static void floats() {
    promise(47);
    StyleFixes x = desk("a b c", "5:'a'>'z';2:'b'>'z';3:'c'>'z'");
    due(x.mean(), Float.floatToIntBits(10f / 3f), "mean()");
    x.silence(4, 5);
    due(x.mean(), Float.floatToIntBits(7f / 2f), "mean(), silent ones aside");
    x.yields(0, 1);
    x.measure(1);
    due(x.mean(), Float.floatToIntBits(700f / 2f), "mean() by bytes");
    x.silence(0, 4);
    due(x.mean(), 0, "mean() of none");
    x = desk("x".repeat(200), "1:wa>");
    x.measure(1);
    due(x.mean(), 0, "mean() of no value");
    x = desk("a bb ccc", "97:wa>wa'.';1:_>");
    x.measure(1);
    due(x.mean(), Float.floatToIntBits((9700f + 4850f + 3233f + 100f + 100f) / 5f), "mean()");

    promise(48);
    x = desk("a b c", "5:'a'>'z';2:'b'>'z'");
    due(x.share(), Double.doubleToLongBits(2d / 5d), "share()");
    x.most(1);
    due(x.share(), Double.doubleToLongBits(1d / 5d), "share()");
    x.most(0);
    due(x.share(), 0L, "share() of none");
    x = desk("abc", "5:wa>");
    due(x.share(), Double.doubleToLongBits(1d), "share() of all");
    x = new StyleFixes();
    due(x.share(), 0L, "share() without bytes");
    x = desk("!".repeat(199) + "a", "5:'a'>");
    due(x.share(), Double.doubleToLongBits(1d / 200d), "share()");
  }

  private static void imageAndBack() {
    promise(49);
    StyleFixes x = desk("a b", "5:'a'>'cc';4:'b'>'d'");
    x.silence(1, 2);
    x.yields(0, 1);
    x.measure(1);
    x.most(3);
    x.make(1);
    x.on(1, false);
    due(x.image(), 4, "image()");
    due(x.steps(), 8, "image() is no step");

    promise(50);
    tape(x, "xyz");
    x.undo();
    x.undo();
    x.undo();
    tape(x, "q");
    x.text();
    tape(x, "1:wa>");
    x.rules();
    tape(x, "xyz");
    for (int again = 0; again < 2; again++) {
      due(x.back(), 4, "back()");
      due(x.is(10), 3, "the tape stays");
      due(read(x), "cc d", "the text");
      due(paints(x), "00.1", "paints");
      due(x.silenced(0, 0), 2, "silenced(0, 0)");
      due(x.is(2), 2, "is(2)");
      due(x.is(3), 1, "is(3)");
      due(x.yielding(0), 1, "yielding(0)");
      due(x.is(7), 1, "is(7)");
      due(x.is(8), 3, "is(8)");
      due(x.is(9), 1, "is(9)");
      due(x.book(0, 1), 900, "book(0, 1)");
      due(x.steps(), 8, "steps are as they were");
      due(x.undo(), 7, "undo()");
      due(x.is(3), 3, "is(3)");
      due(x.undo(), 6, "undo()");
      due(read(x), "a b", "the text");
    }
  }

  // ---- what no promise names alone ----

  private static void yieldedFindings() {
    terms("yielded");
    StyleFixes x = desk("a b c", "1:'a'_'b'>'x';9:'b'>'y';9:'b'_'c'>'z'");
    x.yields(0, 1);
    x.yields(1, 2);
    due(x.finding(1, 7), 1, "b yields to a_b");
    due(x.finding(2, 7), 1, "b_c yields to b, though that is yielded too");
    due(set(x), "0", "the set");
    x.silence(0, 1);
    due(x.finding(1, 7), 0, "not to one that is silent");
    due(set(x), "1", "the set");
    x = desk("a b c", "1:'a'>'x';9:'c'>'y'");
    x.yields(0, 1);
    due(x.is(11), 0, "not to one that shares no byte");
  }

  private static void manyCallsAndObjects() {
    terms("the room");
    com.sun.management.ThreadMXBean threads = (com.sun.management.ThreadMXBean) java.lang.management.ManagementFactory.getThreadMXBean();
    StyleFixes x = desk("a 1 ".repeat(50), "5:na>+na;3:wa_na>na' 'wa;2:na_wa>wa' 'na");
    tape(x, "7:na>-na;1:wa>wa");
    long before = threads.getCurrentThreadAllocatedBytes();
    // an object is used for 512 calls at most
    for (int i = 0; i < 58; i++) {
      x.make(2);
      x.cure();
      x.finding(3, 6);
      x.without(1);
      x.image();
      x.back();
      x.undo();
      x.put(i % 200, 'a' + i % 26);
    }
    long used = threads.getCurrentThreadAllocatedBytes() - before;
    due(used < 20000, true, "calls use what the constructor made, not " + used + " bytes more");
    before = threads.getCurrentThreadAllocatedBytes();
    x = new StyleFixes();
    used = threads.getCurrentThreadAllocatedBytes() - before;
    due(used < 400000, true, "an object of some 70,000 elements, not of " + used + " bytes");
  }

  public static void main(String[] args) {
    face();
    newObject();
    feedAndEnd();
    textTold();
    rulesTold();
    faults();
    onAndOff();
    silenceAndHear();
    measureAndMost();
    bytePut();
    yieldsTold();
    appliedAlone();
    roundsMade();
    stepsTakenBack();
    stepsOneByOne();
    stepsThatChangeNothing();
    counts();
    bytesAndTokens();
    ofRules();
    ofFindings();
    theSet();
    spansAndPaints();
    theBook();
    wordsBracketsLines();
    theCourse();
    theCure();
    floats();
    imageAndBack();
    yieldedFindings();
    manyCallsAndObjects();
    ended("all promises hold");
  }
}
