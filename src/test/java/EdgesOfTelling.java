import java.util.ArrayList;
import java.util.List;
import java.util.function.Consumer;

/** Promises 1 to 17, what is told: a test for each sentence that names a boundary case. */
public final class EdgesOfTelling extends Edges {
  private static final int[] NO_PLACES = {-1, MIN, MAX};

  public static void main(String[] args) { run(EdgesOfTelling.class, 1, 17); }

  private static boolean mayStand(int b) { return b == 10 || b >= 32 && b <= 126; }

  /** One that has something of all that can be: 6 STEPS of telling, a ROUND and one OFF. */
  private static StyleFixes busy() {
    StyleFixes x = desk("a b 1", "5:'a'>'cc';4:wa_wb>wb;3:na>+na");
    x.silence(1, 2);
    x.yields(0, 2);
    x.measure(1);
    x.most(7);
    x.make(1);
    x.on(2, false);
    return x;
  }

  // ---- promise 1: a new object ----

  static void promise01_noTextAndNoRules() {
    says("No TEXT, no RULES; THE IMAGE is this.");
    StyleFixes x = new StyleFixes();
    int[] want = {0, 0, 0, 0, 0, 0, 0, 0, 20, 0, 0, 0, 0, 0, 1, 0};
    for (int what = 0; what < want.length; what++) due(x.is(what), want[what], "is(" + what + ")");
    due(x.at(0), -1, "at(0)");
    due(x.rule(0, 0), -1, "rule(0, 0)");
    due(x.book(-1, 0), 0, "book(-1, 0)");
    due(x.steps(), 0, "steps()");
  }

  static void promise01_theImageIsTheNewObject() {
    says("No TEXT, no RULES; THE IMAGE is this.");
    StyleFixes x = busy();
    due(x.back(), 0, "back()");
    due(all(x), all(new StyleFixes()), "all behind back()");
    x = new StyleFixes();
    due(x.back(), 0, "back() at once");
    due(x.undo(), -1, "undo() behind back()");
  }

  static void promise01_anotherObjectIsAnother() {
    says("No TEXT, no RULES; THE IMAGE is this.");
    StyleFixes other = busy();
    due(all(new StyleFixes()), all(new StyleFixes()), "all of a new object");
    due(new StyleFixes().is(2), 0, "rules of a new object");
    due(read(other), "cc b 2", "the text of the one ahead");
  }

  static void promise01_the512thCallAnswers() {
    says("An object is used for at most 512 calls after it has been made");
    StyleFixes x = new StyleFixes();
    for (int i = 0; i < 170; i++) {
      int[] v = words("1:wa>wa'" + (char) ('a' + i % 26) + "'", 0);
      x.feed(v[0], v[1], v[2], v[3], v[4]);
      x.end(10);
      due(x.rules(), 1, "rules() " + i);
    }
    due(x.steps(), 20, "steps(), call 511");
    due(x.is(2), 1, "is(2), call 512");
  }

  // ---- promise 2: feed ----

  static void promise02_theHighestByteOfAFirst() {
    says("Twenty bytes come behind the tape, the highest of a first: how many it has.");
    StyleFixes x = new StyleFixes();
    due(x.feed(0x61626364, 0x65666768, 0x696a6b6c, 0x6d6e6f70, 0x71727374), 20, "feed");
    due(x.feed(0x30313233, 0x34353637, 0x3839200a, 0x2a2b2c2d, 0x2e2f3a3b), 40, "feed behind it");
    due(x.text(), 40, "text()");
    due(read(x), "abcdefghijklmnopqrst0123456789 \n*+,-./:;", "the text");
  }

  static void promise02_bytesOfEveryIntCome() {
    says("Twenty bytes come behind the tape");
    StyleFixes x = new StyleFixes();
    due(x.feed(-1, MIN, MAX, 0, 128), 20, "feed of bytes that no text may have");
    due(x.is(10), 20, "is(10)");
    due(x.text(), -1, "text()");
  }

  static void promise02_300MayCome() {
    says("NONE, and none come, if there would be more than 300.");
    StyleFixes x = new StyleFixes();
    for (int i = 1; i <= 15; i++) due(x.feed(0, 0, 0, 0, 0), 20 * i, "feed " + i);
    due(x.is(10), 300, "is(10)");
  }

  static void promise02_moreThan300ComeNot() {
    says("NONE, and none come, if there would be more than 300.");
    StyleFixes x = new StyleFixes();
    for (int i = 0; i < 15; i++) x.feed(0x61616161, 0x61616161, 0x61616161, 0x61616161, 0x61616161);
    for (int n = 300; n > 280; n--) {
      due(x.end(n), n, "end(" + n + ")");
      due(x.feed(0, 0, 0, 0, 0), -1, "feed behind " + n);
      due(x.is(10), n, "none come behind " + n);
    }
    due(x.end(280), 280, "end(280)");
    due(x.feed(0, 0, 0, 0, 0), 300, "feed behind 280");
    due(x.end(200), 200, "end(200)");
    due(x.text(), 200, "text() of what came first");
  }

  static void promise02_feedIsNoStepAndChangesNothingElse() {
    says("(all is as ahead of it, but the tape and the latest FAULT)");
    StyleFixes x = busy();
    String before = all(x);
    x.feed(1, 2, 3, 4, 5);
    due(all(x), before, "all behind feed");
  }

  // ---- promise 3: end ----

  static void promise03_theFirstNBytesAlone() {
    says("The tape has its first n bytes alone: n.");
    StyleFixes x = new StyleFixes();
    tape(x, "abcdefghij");
    due(x.end(10), 10, "end(10), all that there are");
    due(x.end(3), 3, "end(3)");
    due(x.is(10), 3, "is(10)");
    x.feed(0x78787878, 0x78787878, 0x78787878, 0x78787878, 0x78787878);
    due(x.end(5), 5, "end(5)");
    due(x.text(), 5, "text()");
    due(read(x), "abcxx", "what is fed comes behind the first 3");
  }

  static void promise03_noneAlone() {
    says("The tape has its first n bytes alone: n.");
    StyleFixes x = new StyleFixes();
    due(x.end(0), 0, "end(0) of an empty tape");
    tape(x, "abc");
    due(x.end(0), 0, "end(0)");
    due(x.is(10), 0, "is(10)");
  }

  static void promise03_notSoMany() {
    says("NONE, and nothing is done, if it has not so many, or n is below 0.");
    StyleFixes x = new StyleFixes();
    due(x.end(1), -1, "end(1) of an empty tape");
    tape(x, "abc");
    due(x.end(4), -1, "end(4) of 3");
    due(x.end(301), -1, "end(301)");
    due(x.end(MAX), -1, "end(MAX)");
    due(x.is(10), 3, "nothing is done");
  }

  static void promise03_belowZero() {
    says("NONE, and nothing is done, if it has not so many, or n is below 0.");
    StyleFixes x = new StyleFixes();
    tape(x, "abc");
    due(x.end(-1), -1, "end(-1)");
    due(x.end(MIN), -1, "end(MIN)");
    due(x.is(10), 3, "nothing is done");
    due(x.text(), 3, "text()");
    due(read(x), "abc", "the bytes");
  }

  // ---- promise 4: text ----

  static void promise04_anEmptyTapeIsATextOfNone() {
    says("THE TEXT: 0 .. 200 bytes");
    StyleFixes x = desk("abc", "");
    due(x.text(), 0, "text()");
    due(x.is(0), 0, "is(0)");
    due(x.at(0), -1, "at(0)");
    due(x.steps(), 3, "it is a step");
  }

  static void promise04_200BytesAreTaken() {
    says("NONE: it has more than 200, or another byte");
    StyleFixes x = new StyleFixes();
    due(text(x, "ab".repeat(100)), 200, "text() of 200");
    due(x.is(0), 200, "is(0)");
    due(x.at(199), 'b', "at(199)");
  }

  static void promise04_moreThan200AreNot() {
    says("NONE: it has more than 200, or another byte");
    StyleFixes x = desk("abc", "");
    due(text(x, "x".repeat(201)), -1, "text() of 201");
    due(read(x), "abc", "the text stays");
    due(text(x, "x".repeat(300)), -1, "text() of 300");
    due(read(x), "abc", "the text stays");
  }

  static void promise04_eachByteIs10Or32To126() {
    says("each 10 or 32 .. 126");
    for (int b = 0; b < 256; b++) {
      StyleFixes x = new StyleFixes();
      due(text(x, "" + (char) b), mayStand(b) ? 1 : -1, "text() of byte " + b);
      due(x.at(0), mayStand(b) ? b : -1, "at(0) of byte " + b);
    }
  }

  static void promise04_anotherByteAtAnyPlaceRefusesAll() {
    says("NONE: it has more than 200, or another byte");
    for (int at : new int[] {0, 1, 99, 198, 199}) {
      StyleFixes x = new StyleFixes();
      String full = "x".repeat(200);
      due(text(x, full.substring(0, at) + "\t" + full.substring(at + 1)), -1, "text() with a tab at " + at);
      due(x.is(0), 0, "is(0)");
    }
  }

  static void promise04_theTapeIsEmptyThen() {
    says("The tape (empty then) is THE TEXT");
    StyleFixes x = desk("abc", "");
    due(x.is(10), 0, "is(10)");
    due(x.text(), 0, "text() again is of none");
  }

  static void promise04_theTapeIsEmptyAllTheSame() {
    says("(the tape is empty all the same)");
    StyleFixes x = new StyleFixes();
    text(x, "x".repeat(201));
    due(x.is(10), 0, "is(10) behind one too long");
    text(x, "a\tb");
    due(x.is(10), 0, "is(10) behind another byte");
    due(x.end(1), -1, "end(1)");
  }

  static void promise04_whatIsRefusedChangesNothing() {
    says("NONE: it has more than 200, or another byte");
    StyleFixes x = busy();
    String before = all(x);
    text(x, "x".repeat(201));
    text(x, "\t");
    due(all(x), before, "all");
  }

  static void promise04_nothingIsSilencedOrPainted() {
    says("none, if THE TEXT or the BYTE was told");
    StyleFixes x = busy();
    due(text(x, "cc b 2"), 6, "text() as it is");
    due(spans(x), "", "silenced spans");
    due(paints(x), "......", "paints");
    due(x.is(2), 3, "rules stay");
    due(x.is(3), 3, "those on stay");
    due(x.is(12), 1, "yields stay");
    due(x.book(-1, 0), 1, "the book stays");
    due(x.is(9), 1, "rounds made in all stay");
  }

  // ---- promise 5: rules ----

  static void promise05_noBytesTellNoRules() {
    says("(none: no RULES)");
    StyleFixes x = busy();
    due(x.rules(), 0, "rules()");
    due(x.is(2), 0, "is(2)");
    due(x.is(3), 0, "is(3)");
    due(x.is(4), 0, "is(4)");
    due(x.fault(0), 0, "fault(0)");
  }

  static void promise05_textOf300Bytes() {
    says("told as one text of at most 300 bytes");
    StyleFixes x = desk("a", "1:wa>'" + "x".repeat(292) + "y'");
    due(x.finding(0, 3), 293, "finding(0, 3)");
    due(x.fresh(0, 292), 'y', "fresh(0, 292)");
    due(x.fresh(0, 293), -1, "fresh(0, 293)");
    due(x.apply(0), -1, "apply(0)");
    faulty("1:wa>'" + "x".repeat(294), 1, 300);
  }

  static void promise05_sixRulesAtMost() {
    says("3 a seventh RULE (at its NUMBER).");
    String six = "1:wa>;2:na>;3:sa>;4:_>;5:'a'>;6:'1'>";
    taken(six, 6);
    faulty(six + ";7:wa>", 3, six.length() + 1);
  }

  static void promise05_weights1To99() {
    says("NUMBER (its WEIGHT, 1 .. 99)");
    for (int w = 1; w <= 99; w++) {
      StyleFixes x = new StyleFixes();
      due(rules(x, w + ":wa>"), 1, "rules() of weight " + w);
      due(x.rule(0, 0), w, "rule(0, 0)");
    }
  }

  static void promise05_sixElementsAndSixParts() {
    says("6 ELEMENTS and 6 PARTS at most");
    StyleFixes x = desk("a b c!", "5:wa_wb' 'wcsa>sawcwbwa''~wa");
    due(x.rule(0, 1), 6, "rule(0, 1)");
    due(x.rule(0, 2), 6, "rule(0, 2)");
    due(fresh(x, 0), "!cbaa", "what stands in its place");
    taken("1:wa>", 1);
  }

  static void promise05_namesAreAToD() {
    says("ELEMENT: w, n or s with a name a .. d (a WORD, NUMBER, SIGN)");
    for (char sort : "wns".toCharArray()) {
      for (int b = 0; b < 256; b++) {
        String rule = "5:" + sort + (char) b + ">";
        if (b >= 'a' && b <= 'd') taken(rule, 1); else faulty(rule, 1, 3);
      }
    }
  }

  static void promise05_bytesWithinQuotes() {
    says("bytes: 32 .. 126 but ' (39). No blanks but within '.");
    for (int b = 0; b < 256; b++) {
      String element = "5:'" + (char) b + "'>";
      String part = "5:wa>'" + (char) b + "'";
      if (b == 39) {
        faulty(element, 6, 2);
        faulty(part, 1, 8);
      } else if (b >= 32 && b <= 126) {
        taken(element, 1);
        taken(part, 1);
      } else {
        faulty(element, 1, 3);
        faulty(part, 1, 6);
      }
    }
  }

  static void promise05_anElementsBytesAreOneToken() {
    says("6 an ELEMENT ' bytes ' whose bytes aren't one TOKEN (none, too; at the first ', asked when it is closed).");
    for (String one : new String[] {"a", "az", "0", "09", " ", "   ", "!", "A", "{", "`", "/", ":"}) taken("5:'" + one + "'>", 1);
    for (String more : new String[] {"", "a1", "1a", "a ", " a", "1 ", "!!", "a!", "!a", "AB", "aB", " !", "a a"}) faulty("5:wa'" + more + "'>", 6, 4);
  }

  static void promise05_aPartsBytesAreAnyOrNone() {
    says("or ' bytes ' (any, none, too)");
    StyleFixes x = desk("a", "5:wa>'';5:wa>'a 1!! b'");
    due(fresh(x, 0), "", "none");
    due(fresh(x, 1), "a 1!! b", "any");
  }

  static void promise05_inPlaceOfThoseAhead() {
    says("in place of those ahead");
    StyleFixes x = desk("a b", "5:'a'>'x';6:'b'>'y';7:wa>");
    due(rules(x, "9:'b'>'z'"), 1, "rules()");
    due(x.is(2), 1, "is(2)");
    due(x.rule(0, 0), 9, "rule(0, 0)");
    due(x.rule(1, 0), -1, "rule(1, 0)");
    due(x.is(4), 1, "is(4)");
  }

  static void promise05_aRuleIsOnAtFirst() {
    says("A RULE is ON at first.");
    StyleFixes x = desk("a", "1:wa>;2:wa>;3:wa>;4:wa>;5:wa>;6:wa>");
    due(x.is(3), 63, "is(3) of six");
    x.on(0, false);
    x.on(5, false);
    rules(x, "1:wa>;2:wa>");
    due(x.is(3), 3, "is(3) of two, told when one was off");
  }

  static void promise05_noYieldsWhenRulesAreTold() {
    says("(8 at most; none, when RULES are told)");
    StyleFixes x = desk("a", "1:wa>;2:wa>");
    x.yields(0, 1);
    rules(x, "1:wa>;2:wa>");
    due(x.is(12), 0, "is(12)");
    due(x.yielding(0), -1, "yielding(0)");
    due(x.yields(1, 0), true, "the other way round may be told now");
  }

  static void promise05_theTextStaysWithAllThatGoesAlong() {
    says("The tape (empty then) tells RULES: how many.");
    StyleFixes x = busy();
    rules(x, "1:'q'>");
    due(read(x), "cc b 2", "the text");
    due(paints(x), "00...2", "paints");
    due(spans(x), "2-3", "silenced spans");
    due(x.book(-1, 0), 1, "the book");
    due(x.is(7), 1, "measure");
    due(x.is(8), 7, "most");
  }

  static void promise05_theTapeIsEmptyThen() {
    says("The tape (empty then) tells RULES: how many. ");
    StyleFixes x = new StyleFixes();
    rules(x, "1:wa>");
    due(x.is(10), 0, "is(10) behind rules taken");
    rules(x, "1:wa>x");
    due(x.is(10), 0, "is(10) behind a fault");
  }

  static void promise05_aTextWithAFaultIsNotTaken() {
    says("A text with a FAULT is not taken.");
    StyleFixes x = busy();
    String before = all(x);
    due(rules(x, "9:'x'>'y';9:'x'>'y'x"), -1, "rules() with a fault at the end");
    due(rules(x, "0:wa>"), -1, "rules() with a fault at the beginning");
    due(all(x), before, "all");
  }

  // ---- promise 6: fault ----

  static void promise06_withoutAFault() {
    says("The FAULT of the RULES told latest (what 0; 0 without), its place (1; NONE without).");
    StyleFixes x = new StyleFixes();
    due(x.fault(0), 0, "fault(0) of a new object");
    due(x.fault(1), -1, "fault(1) of a new object");
    rules(x, "1:wa>wb");
    rules(x, "1:wa>wa");
    due(x.fault(0), 0, "fault(0)");
    due(x.fault(1), -1, "fault(1)");
  }

  static void promise06_noneForOthers() {
    says("NONE for others.");
    StyleFixes x = new StyleFixes();
    rules(x, "1:wa>wb");
    for (int what : new int[] {-1, 2, 3, MIN, MAX}) due(x.fault(what), -1, "fault(" + what + ")");
  }

  static void promise06_ofTheRulesToldLatest() {
    says("The FAULT of the RULES told latest");
    StyleFixes x = new StyleFixes();
    rules(x, "1:wa>wb");
    rules(x, "0:wa>");
    due(x.fault(0), 2, "fault(0)");
    due(x.fault(1), 0, "fault(1)");
    text(x, "\t");
    text(x, "a");
    due(x.fault(0), 2, "a text tells no rules");
    rules(x, "");
    due(x.fault(0), 0, "no rules have no fault");
  }

  static void promise06_theLatestFaultStaysWhenAStepIsTakenBack() {
    says("(all is as ahead of it, but the tape and the latest FAULT)");
    StyleFixes x = desk("a", "1:wa>");
    rules(x, "1:wa>wb");
    x.undo();
    due(x.fault(0), 5, "fault(0) behind undo()");
    due(x.fault(1), 5, "fault(1) behind undo()");
    x.image();
    rules(x, "1:wa>");
    x.back();
    due(x.fault(0), 0, "fault(0) behind back()");
    due(x.fault(1), -1, "fault(1) behind back()");
  }

  static void promise06_ofTheEndAtTheLength() {
    says("(of the end at the length)");
    String whole = "12:wanb_'c'>~wa+nb-nbwa'x'";
    boolean[] may = new boolean[whole.length() + 1];
    // behind > and behind each PART a text may end
    for (int at : new int[] {0, 12, 15, 18, 21, 23, 26}) may[at] = true;
    for (int n = 0; n <= whole.length(); n++) {
      String some = whole.substring(0, n);
      if (may[n]) taken(some, n == 0 ? 0 : 1); else faulty(some, 1, n);
      if (n > 0 && may[n]) faulty(some + ";", 1, n + 1);
    }
  }

  static void promise06_whatCantStandThere() {
    says("1 what can't stand there.");
    String whole = "66:wa_'a'>wa' 'wa;7:na>+na-na";
    boolean quoted = false;
    for (int at = 0; at <= whole.length(); at++) {
      if (!quoted) {
        for (char b : new char[] {' ', '\n', '\t', 0, 127, 128, 255, '"', 'A'}) faulty(whole.substring(0, at) + b + whole.substring(at), 1, at);
      }
      if (at < whole.length() && whole.charAt(at) == '\'') quoted = !quoted;
    }
  }

  static void promise06_whatMayNotBeginAnElementOrPart() {
    says("1 what can't stand there.");
    for (int b = 33; b < 127; b++) {
      boolean first = "wns_'".indexOf(b) >= 0;
      if (!first) faulty("5:" + (char) b, 1, 2);
      if (!first && b != '>') faulty("5:wa" + (char) b, 1, 4);
      if ("wns+-~';".indexOf(b) < 0) faulty("5:wa>" + (char) b, 1, 5);
    }
    faulty("5:>", 1, 2);
    faulty("5:na>+wa", 1, 6);
    faulty("5:na>-sa", 1, 6);
    faulty("5:wa>~na", 1, 6);
    faulty("5:wa>+'x'", 1, 6);
    faulty("5:wa>we", 1, 6);
  }

  static void promise06_aNumberThatIsNoneOfThoseTold() {
    says("2 a NUMBER that is none of those told.");
    for (String number : new String[] {"0", "00", "100", "101", "999", "1000", "2147483647", "2147483648", "4294967297", "9".repeat(290)}) {
      faulty(number + ":wa>", 2, 0);
      faulty(number, 2, 0);
    }
    faulty("5:wa>;100:wa>", 2, 6);
  }

  static void promise06_aSeventhRuleAtItsNumber() {
    says("3 a seventh RULE (at its NUMBER).");
    String six = "1:wa>;1:wa>;1:wa>;1:wa>;1:wa>;1:wa>";
    faulty(six + ";9", 3, 36);
    faulty(six + ";99:wa>", 3, 36);
    faulty(six + ";9x", 3, 36);
    faulty(six + ";", 1, 36);
    faulty(six + ";x", 1, 36);
    faulty(six + ";:", 1, 36);
  }

  static void promise06_aSeventhElementOrPart() {
    says("4 a seventh ELEMENT, PART (a byte by which one may begin).");
    for (char b : "wns_'".toCharArray()) faulty("5:wawbwcwdnanb" + b, 4, 14);
    for (char b : "+-~;: ".toCharArray()) faulty("5:wawbwcwdnanb" + b, 1, 14);
    for (char b : "wns+-~'".toCharArray()) faulty("5:wa>wawawawawawa" + b, 4, 17);
    for (char b : "_>: ".toCharArray()) faulty("5:wa>wawawawawawa" + b, 1, 17);
    faulty("5:______wa>", 4, 8);
    faulty("5:wa>''''''''''''''", 4, 17);
  }

  static void promise06_aNameThatNoElementAheadHasOfThatSort() {
    says("5 a name that no ELEMENT ahead has of that sort (at the w, n, s).");
    for (String has : new String[] {"wa", "wb", "wc", "wd", "na", "nb", "nc", "nd", "sa", "sb", "sc", "sd"}) {
      for (String asks : new String[] {"wa", "wb", "wc", "wd", "na", "nb", "nc", "nd", "sa", "sb", "sc", "sd"}) {
        if (has.equals(asks)) taken("5:" + has + ">" + asks, 1); else faulty("5:" + has + ">" + asks, 5, 5);
      }
    }
    faulty("5:wa>+na", 5, 6);
    faulty("5:na>+na-nb", 5, 9);
    faulty("5:na>~wa", 5, 6);
    faulty("5:'a'_>wa", 5, 7);
    faulty("5:wa>wa;5:na>wa", 5, 13);
  }

  static void promise06_aSixthFaultIsAskedWhenClosed() {
    says("(none, too; at the first ', asked when it is closed)");
    faulty("5:''", 6, 2);
    faulty("5:'a b'", 6, 2);
    faulty("5:'a b", 1, 6);
    faulty("5:'", 1, 3);
    faulty("5:'a b\n'>", 1, 6);
    faulty("5:'!!" + (char) 127 + "'>", 1, 5);
  }

  static void promise06_theFirstFromTheLeft() {
    says("FAULTS, the first from the left, at its first byte");
    faulty("0x", 2, 0);
    faulty("100:we>", 2, 0);
    faulty("5:''we>wb", 6, 2);
    faulty("5:'a b'x", 6, 2);
    faulty("5:wa>wb;0:", 5, 5);
    faulty("5:wa>wbx", 5, 5);
    faulty("5:wa>+nax", 5, 6);
    faulty("5:wax;0:''>", 1, 4);
  }

  static void promise06_ofOneTheLeast() {
    says("of one the least: 1 what can't stand there.");
    String six = "1:wa>;1:wa>;1:wa>;1:wa>;1:wa>;1:wa>";
    faulty(six + ";0:wa>", 2, 36);
    faulty(six + ";100", 2, 36);
    faulty("5:wawbwcwdnanb'a b'>", 4, 14);
    faulty("5:wawbwcwdnanb''>", 4, 14);
    faulty("5:wa>wawawawawawawb", 4, 17);
    faulty("5:wa>wawawawawawa+nb", 4, 17);
  }

  // ---- promise 7: on ----

  static void promise07_offAndOnAgain() {
    says("A RULE is ON (is), OFF: true.");
    StyleFixes x = desk("a", "1:wa>;2:wa>;3:wa>;4:wa>;5:wa>;6:wa>");
    for (int r = 0; r < 6; r++) {
      due(x.on(r, false), true, "on(" + r + ", false)");
      due(x.is(3), 63 - (1 << r), "is(3)");
      due(x.on(r, true), true, "on(" + r + ", true)");
      due(x.is(3), 63, "is(3)");
    }
  }

  static void promise07_itIsSo() {
    says("False: it is so, and for others.");
    StyleFixes x = desk("a", "1:wa>;2:wa>");
    due(x.on(0, true), false, "on(0, true) when on");
    x.on(1, false);
    due(x.on(1, false), false, "on(1, false) when off");
    due(x.is(3), 1, "is(3)");
    due(x.steps(), 3, "what is so is no step");
  }

  static void promise07_others() {
    says("False: it is so, and for others.");
    StyleFixes x = desk("a", "1:wa>;2:wa>");
    String before = all(x);
    for (int r : new int[] {-1, 2, 5, 6, 31, 32, 33, 64, MIN, MAX}) {
      due(x.on(r, false), false, "on(" + r + ", false)");
      due(x.on(r, true), false, "on(" + r + ", true)");
    }
    due(all(x), before, "all");
    due(new StyleFixes().on(0, true), false, "on(0, true) without rules");
  }

  // ---- promise 8: silence ----

  static void promise08_atLeastOneByteOfTheText() {
    says("(8 of these at most; each at least one byte of THE TEXT)");
    StyleFixes x = desk("abc", "");
    due(x.silence(0, 1), 1, "silence(0, 1), the first byte");
    due(x.silence(2, 3), 2, "silence(2, 3), the last byte");
    due(x.silence(0, 3), 3, "silence(0, 3), all");
    due(x.silence(0, 3), 4, "silence(0, 3) again");
    due(spans(x), "0-1 2-3 0-3 0-3", "as told");
  }

  static void promise08_notWithinTheTextOrNone() {
    says("NONE for others (not within THE TEXT, none), or if there are 8.");
    StyleFixes x = desk("abc", "5:wa>");
    String before = all(x);
    int[][] others = {{0, 0}, {3, 3}, {1, 0}, {3, 0}, {-1, 1}, {-1, 0}, {2, 4}, {3, 4}, {0, 4}, {MIN, 1}, {0, MAX}, {MIN, MAX}, {MAX, MIN}, {MAX, MAX}};
    for (int[] o : others) due(x.silence(o[0], o[1]), -1, "silence(" + o[0] + ", " + o[1] + ")");
    due(all(x), before, "all");
    due(new StyleFixes().silence(0, 1), -1, "silence(0, 1) of no text");
    due(new StyleFixes().silence(0, 0), -1, "silence(0, 0) of no text");
  }

  static void promise08_eightAtMost() {
    says("NONE for others (not within THE TEXT, none), or if there are 8.");
    StyleFixes x = desk("abcdefghi", "");
    for (int i = 0; i < 8; i++) due(x.silence(i, i + 1), i + 1, "silence " + (i + 1));
    due(x.silence(8, 9), -1, "a ninth");
    due(x.silence(0, 1), -1, "a ninth as another one");
    due(spans(x), "0-1 1-2 2-3 3-4 4-5 5-6 6-7 7-8", "as told");
    due(x.steps(), 10, "what is refused is no step");
    x.hear(3);
    due(x.silence(8, 9), 8, "an eighth again");
  }

  static void promise08_aFindingThatSharesAByteIsSilent() {
    says("SILENT: the SPAN shares a byte with a SPAN that is SILENCED");
    for (int at = 0; at < 7; at++) {
      StyleFixes x = desk("ab cd ef", "5:'cd'>");
      x.silence(at, at + 1);
      due(x.finding(0, 5), at == 3 || at == 4 ? 1 : 0, "finding(0, 5) with byte " + at + " silenced");
    }
    StyleFixes x = desk("ab cd ef", "5:'cd'>");
    x.silence(0, 3);
    x.silence(5, 8);
    due(x.is(5), 0, "all around it");
    x.silence(0, 8);
    due(x.is(5), 1, "and all");
  }

  // ---- promise 9: hear ----

  static void promise09_theIthAsTold() {
    says("The i-th SILENCED span (as told) is HEARD again: true.");
    for (int i = 0; i < 8; i++) {
      StyleFixes x = desk("abcdefgh", "");
      StringBuilder left = new StringBuilder();
      for (int k = 0; k < 8; k++) {
        x.silence(7 - k, 8 - k);
        if (k != i) left.append(left.length() == 0 ? "" : " ").append(7 - k).append('-').append(8 - k);
      }
      due(x.hear(i), true, "hear(" + i + ")");
      due(spans(x), left.toString(), "the others as told");
    }
  }

  static void promise09_thereIsNoneSuch() {
    says("False: there is none such.");
    StyleFixes x = desk("abc", "");
    due(x.hear(0), false, "hear(0) of none");
    x.silence(0, 1);
    x.silence(1, 2);
    for (int i : new int[] {-1, 2, 7, 8, MIN, MAX}) due(x.hear(i), false, "hear(" + i + ")");
    due(spans(x), "0-1 1-2", "as told");
    due(x.steps(), 4, "what is refused is no step");
  }

  static void promise09_aByteStaysSilencedByAnotherSpan() {
    says("The i-th SILENCED span (as told) is HEARD again: true.");
    StyleFixes x = desk("abc", "");
    x.silence(0, 2);
    x.silence(1, 3);
    x.hear(0);
    due(x.isSilent(0), false, "isSilent(0)");
    due(x.isSilent(1), true, "isSilent(1)");
    x.hear(0);
    due(x.isSilent(1), false, "isSilent(1)");
  }

  // ---- promise 10: measure ----

  static void promise10_others() {
    says("MEASURE: true. False for others.");
    StyleFixes x = desk("abc", "5:wa>");
    due(x.is(7), 0, "0 at first");
    for (int m : new int[] {-1, 2, MIN, MAX}) due(x.measure(m), false, "measure(" + m + ")");
    due(x.is(7), 0, "is(7)");
    due(x.steps(), 2, "what is refused is no step");
    due(x.measure(1), true, "measure(1)");
    for (int m : NO_PLACES) due(x.measure(m), false, "measure(" + m + ")");
    due(x.is(7), 1, "is(7)");
  }

  static void promise10_asItIsAlready() {
    says("MEASURE: true. False for others.");
    StyleFixes x = desk("abc", "5:wa>");
    due(x.measure(0), true, "measure(0), as it is");
    due(x.steps(), 3, "it is a step");
  }

  static void promise10_weightTimes100ByBytesTowardZero() {
    says("1: WEIGHT as a float times 100, divided by the SPAN's bytes as a float, as an int (toward 0).");
    int[] lengths = {1, 2, 3, 7, 13, 64, 99, 100, 101, 150, 199, 200};
    for (int weight : new int[] {1, 2, 3, 7, 50, 98, 99}) {
      for (int length : lengths) {
        StyleFixes x = desk("x".repeat(length), weight + ":wa>");
        due(x.finding(0, 4), weight, "by weight alone");
        x.measure(1);
        due(x.finding(0, 4), weight * 100 / length, weight + " by " + length + " bytes");
      }
    }
  }

  // ---- promise 11: most ----

  static void promise11_others() {
    says("MOST: true. False for others.");
    StyleFixes x = new StyleFixes();
    due(x.is(8), 20, "20 at first");
    for (int m : new int[] {-1, 21, 22, 100, MIN, MAX}) due(x.most(m), false, "most(" + m + ")");
    due(x.is(8), 20, "is(8)");
    due(x.steps(), 0, "what is refused is no step");
    for (int m = 0; m <= 20; m++) {
      due(x.most(m), true, "most(" + m + ")");
      due(x.is(8), m, "is(8)");
    }
  }

  static void promise11_asItIsAlready() {
    says("MOST 0 .. 20 (at first 20).");
    StyleFixes x = new StyleFixes();
    due(x.most(20), true, "most(20), as it is");
    due(x.steps(), 1, "it is a step");
  }

  static void promise11_soManyAtMostAreInTheSet() {
    says("as many as MOST");
    for (int most = 0; most <= 20; most++) {
      StyleFixes x = desk("!".repeat(21), "5:sa>");
      x.most(most);
      due(x.set(-1), most, "set(-1) of 21, most " + most);
      due(x.worth(), 5 * most, "worth()");
      due(x.set(most - 1), most == 0 ? 0 : most - 1, "the last of the lesser ones");
      due(x.set(Math.max(1, most)), -1, "one more");
    }
  }

  // ---- promise 12: put ----

  static void promise12_eachByteIs10Or32To126() {
    says("A BYTE of THE TEXT is told (10, 32 .. 126): true.");
    StyleFixes x = desk("abc", "");
    for (int b = -130; b < 300; b++) due(x.put(1, b), mayStand(b), "put(1, " + b + ")");
    for (int b : new int[] {MIN, MAX, 256 + 65, -191, 65536 + 65}) due(x.put(1, b), false, "put(1, " + b + ")");
    due(read(x), "a~c", "the latest that was told");
  }

  static void promise12_placesOfTheText() {
    says("False: it is SILENCED, and for others.");
    StyleFixes x = desk("abc", "");
    for (int at : new int[] {-1, 3, 4, 199, 200, MIN, MAX}) due(x.put(at, 'x'), false, "put(" + at + ", x)");
    due(read(x), "abc", "the text");
    due(x.steps(), 2, "what is refused is no step");
    due(x.put(0, 'x'), true, "put(0, x)");
    due(x.put(2, 'z'), true, "put(2, z)");
    due(read(x), "xbz", "the text");
    due(new StyleFixes().put(0, 'x'), false, "put(0, x) of no text");
    x = desk("x".repeat(200), "");
    due(x.put(199, 'y'), true, "put(199, y) of 200");
    due(x.put(200, 'y'), false, "put(200, y) of 200");
  }

  static void promise12_aSilencedByte() {
    says("False: it is SILENCED, and for others.");
    StyleFixes x = desk("abcde", "");
    x.silence(1, 4);
    for (int at = 0; at < 5; at++) due(x.put(at, 'x'), at == 0 || at == 4, "put(" + at + ", x)");
    due(read(x), "xbcdx", "the text");
    due(spans(x), "1-4", "silenced spans");
    x.hear(0);
    due(x.put(2, 'x'), true, "put(2, x), heard again");
  }

  static void promise12_asItIsAlready() {
    says("none, if THE TEXT or the BYTE was told");
    StyleFixes x = desk("a", "5:'a'>'b'");
    x.make(1);
    due(x.paint(0), 0, "paint(0)");
    due(x.put(0, 'b'), true, "put(0, b), as it is");
    due(x.paint(0), -1, "its paint is none then");
    due(x.steps(), 4, "it is a step");
  }

  static void promise12_tokensAndFindingsAreAnew() {
    says("A BYTE of THE TEXT is told (10, 32 .. 126): true.");
    StyleFixes x = desk("aaa", "5:'a'>'b'");
    due(x.is(4), 0, "is(4)");
    x.put(1, ' ');
    due(x.is(1), 3, "is(1)");
    due(x.is(4), 2, "is(4)");
  }

  // ---- promise 13: yields ----

  static void promise13_unlikeOnes() {
    says("unlike ones, not told yet");
    StyleFixes x = desk("a", "1:wa>;1:wa>;1:wa>;1:wa>;1:wa>;1:wa>");
    for (int r = 0; r < 6; r++) due(x.yields(r, r), false, "yields(" + r + ", " + r + ")");
    due(x.is(12), 0, "is(12)");
    due(x.steps(), 2, "what is refused is no step");
  }

  static void promise13_notToldYet() {
    says("unlike ones, not told yet");
    StyleFixes x = desk("a", "1:wa>;1:wa>;1:wa>");
    due(x.yields(0, 1), true, "yields(0, 1)");
    due(x.yields(0, 2), true, "yields(0, 2)");
    due(x.yields(0, 1), false, "yields(0, 1) again");
    due(x.yields(0, 2), false, "yields(0, 2) again");
    due(x.is(12), 2, "is(12)");
  }

  static void promise13_notIfTheFirstYieldsToTheSecondByAChain() {
    says("not, if the first one YIELDS to the second, or to one that does, and so on");
    int[][] orders = {{0, 1, 2, 3, 4, 5}, {5, 4, 3, 2, 1, 0}, {3, 0, 5, 1, 4, 2}};
    for (int[] o : orders) {
      for (int backwards = 0; backwards < 2; backwards++) {
        StyleFixes x = desk("a", "1:wa>;1:wa>;1:wa>;1:wa>;1:wa>;1:wa>");
        for (int i = 0; i < 5; i++) {
          int k = backwards == 1 ? 4 - i : i;
          due(x.yields(o[k], o[k + 1]), true, "yields(" + o[k] + ", " + o[k + 1] + ")");
        }
        for (int k = 1; k < 6; k++) due(x.yields(o[k], o[0]), false, "a chain of " + k + " round");
        due(x.yields(o[0], o[5]), true, "along the chain");
        due(x.is(12), 6, "is(12)");
      }
    }
  }

  static void promise13_twoWaysToOneAreNoChainRound() {
    says("not, if the first one YIELDS to the second, or to one that does, and so on");
    StyleFixes x = desk("a", "1:wa>;1:wa>;1:wa>;1:wa>");
    due(x.yields(0, 1), true, "yields(0, 1)");
    due(x.yields(0, 2), true, "yields(0, 2)");
    due(x.yields(1, 3), true, "yields(1, 3)");
    due(x.yields(2, 3), true, "yields(2, 3)");
    due(x.yields(1, 2), true, "yields(1, 2)");
    due(x.yields(2, 1), false, "yields(2, 1)");
  }

  static void promise13_notToldAnyMore() {
    says("unlike ones, not told yet");
    StyleFixes x = desk("a", "1:wa>;1:wa>;1:wa>");
    due(x.yields(0, 1), true, "yields(0, 1)");
    x.undo();
    due(x.yields(0, 1), true, "yields(0, 1), taken back");
    x.insist();
    due(x.yields(0, 1), true, "yields(0, 1), wiped");
    x.image();
    x.yields(0, 2);
    x.back();
    due(x.yields(0, 2), true, "yields(0, 2), not in the image");
    due(x.yielding(0), 1, "yielding(0)");
    due(x.yielding(1), 2, "yielding(1)");
  }

  static void promise13_eightAtMost() {
    says("False, if it can't be, there are 8, and for others.");
    StyleFixes x = desk("a", "1:wa>;1:wa>;1:wa>;1:wa>;1:wa>;1:wa>");
    int[][] eight = {{0, 1}, {0, 2}, {0, 3}, {0, 4}, {0, 5}, {1, 2}, {1, 3}, {1, 4}};
    for (int[] y : eight) due(x.yields(y[0], y[1]), true, "yields(" + y[0] + ", " + y[1] + ")");
    due(x.yields(1, 5), false, "a ninth");
    due(x.is(12), 8, "is(12)");
    due(x.steps(), 10, "what is refused is no step");
    x.undo();
    due(x.yields(1, 5), true, "an eighth again");
    due(x.yielding(7), 15, "yielding(7)");
  }

  static void promise13_others() {
    says("False, if it can't be, there are 8, and for others.");
    StyleFixes x = desk("a", "1:wa>;1:wa>");
    for (int r : new int[] {-1, 2, 6, 32, 33, MIN, MAX}) {
      due(x.yields(r, 0), false, "yields(" + r + ", 0)");
      due(x.yields(0, r), false, "yields(0, " + r + ")");
    }
    due(x.is(12), 0, "is(12)");
    due(new StyleFixes().yields(0, 1), false, "yields(0, 1) without rules");
  }

  static void promise13_rulesThatAreOffMayYield() {
    says("YIELDS: twos of RULES");
    StyleFixes x = desk("a", "1:wa>;1:wa>");
    x.on(0, false);
    x.on(1, false);
    due(x.yields(0, 1), true, "yields(0, 1), both off");
  }

  // ---- promise 14: insist ----

  static void promise14_howManyThereWere() {
    says("All YIELDS are wiped: how many there were.");
    StyleFixes x = desk("a", "1:wa>;1:wa>;1:wa>;1:wa>;1:wa>;1:wa>");
    due(x.insist(), 0, "insist() of none");
    int[][] eight = {{0, 1}, {0, 2}, {0, 3}, {0, 4}, {0, 5}, {1, 2}, {1, 3}, {1, 4}};
    for (int[] y : eight) x.yields(y[0], y[1]);
    due(x.insist(), 8, "insist() of eight");
    due(x.is(12), 0, "is(12)");
    due(x.yielding(0), -1, "yielding(0)");
    due(x.yields(1, 0), true, "the other way round may be told now");
    due(x.insist(), 1, "insist() of one");
  }

  static void promise14_noneAreAStepToo() {
    says("YIELDS told, wiped");
    StyleFixes x = new StyleFixes();
    due(x.insist(), 0, "insist()");
    due(x.steps(), 1, "steps()");
    due(x.undo(), 0, "undo()");
  }

  // ---- promise 15: apply ----

  static void promise15_aSilentOne() {
    says("NONE: it is SILENT, can't be, and for others.");
    StyleFixes x = desk("a a", "5:'a'>'b'");
    x.silence(0, 1);
    String before = all(x);
    due(x.apply(0), -1, "apply(0), silent");
    due(all(x), before, "all");
    due(x.apply(1), 3, "apply(1)");
    due(read(x), "a b", "the text");
  }

  static void promise15_others() {
    says("NONE: it is SILENT, can't be, and for others.");
    StyleFixes x = desk("a a", "5:'a'>'b'");
    String before = all(x);
    for (int i : new int[] {-1, 2, 1199, 1200, MIN, MAX}) due(x.apply(i), -1, "apply(" + i + ")");
    due(all(x), before, "all");
    due(new StyleFixes().apply(0), -1, "apply(0) of a new object");
  }

  static void promise15_200BytesAtMost() {
    says("its SPAN has what stands in its place, if THE TEXT has 200 bytes at most then (no ROUND)");
    StyleFixes x = desk("x".repeat(199), "5:wa>wa'y'");
    due(x.apply(0), 200, "apply(0) to 200");
    due(x.apply(0), -1, "apply(0) to 201");
    due(read(x), "x".repeat(199) + "y", "the text stays");
    due(x.steps(), 3, "what can't be is no step");
    x = desk("x".repeat(200), "5:wa>~wa'y';5:wa>'z'");
    due(x.apply(1), 1, "apply(1) from 200");
  }

  static void promise15_toNoBytes() {
    says("how many bytes THE TEXT has");
    StyleFixes x = desk("abc", "5:wa>");
    due(x.apply(0), 0, "apply(0) to no bytes");
    due(x.is(0), 0, "is(0)");
    due(x.apply(0), -1, "apply(0) of no text");
  }

  static void promise15_noRound() {
    says("(no ROUND)");
    StyleFixes x = desk("a b", "5:'a'>'c';4:'b'>'d'");
    due(x.apply(1), 3, "apply(1)");
    due(read(x), "a d", "one alone");
    due(x.is(9), 0, "is(9)");
    due(x.book(-1, 0), 0, "book(-1, 0)");
    due(x.steps(), 3, "it is a step");
  }

  static void promise15_yieldedOrNotInTheSet() {
    says("MADE alone, a FINDING (not SILENT)");
    StyleFixes x = desk("a b", "5:'a'>'c';4:wa_wb>wb");
    x.yields(0, 1);
    due(x.finding(1, 7), 1, "it is yielded");
    due(x.apply(1), 1, "apply(1)");
    due(read(x), "b", "the text");
    x.undo();
    x.most(0);
    due(x.set(-1), 0, "the set is none");
    due(x.apply(0), 3, "apply(0)");
    due(read(x), "c b", "the text");
  }

  static void promise15_spansAndPaintsGoAlong() {
    says("SILENCED spans and PAINTS go along (with their bytes)");
    StyleFixes x = desk("a b c d", "5:'a'>'xyz';5:'c'>''");
    x.silence(2, 4);
    x.silence(5, 7);
    x.silence(1, 2);
    due(x.apply(1), 6, "apply(1), one byte less");
    due(spans(x), "2-4 4-6 1-2", "those ahead stay, those behind go along");
    due(x.apply(0), 8, "apply(0), two bytes more");
    due(spans(x), "4-6 6-8 3-4", "all go along");
    due(read(x), "xyz b  d", "the text");
    due(paints(x), "000.....", "paints");
    x.put(7, 'a');
    due(x.isSilent(7), true, "isSilent(7)");
  }

  // ---- promise 16: make ----

  static void promise16_others() {
    says("MADE, n (1 .. 30) ROUNDS");
    StyleFixes x = desk("0", "5:na>+na");
    String before = all(x);
    for (int n : new int[] {0, -1, 31, 32, MIN, MAX}) due(x.make(n), -1, "make(" + n + ")");
    due(all(x), before, "all");
  }

  static void promise16_oneTo30() {
    says("MADE, n (1 .. 30) ROUNDS: so many, as long as they can be.");
    StyleFixes x = desk("0", "5:na>+na");
    due(x.make(1), 1, "make(1)");
    due(read(x), "1", "the text");
    due(x.make(30), 30, "make(30)");
    due(read(x), "31", "the text");
    due(x.make(29), 29, "make(29)");
    due(x.is(9), 60, "is(9)");
  }

  static void promise16_tillStill() {
    says("It can't be, if THE SET is none (STILL)");
    StyleFixes x = desk("3", "5:na>-na");
    due(x.make(30), 3, "make(30)");
    due(read(x), "0", "the text");
    due(x.make(30), 0, "make(30) of a still text");
    due(x.is(9), 3, "is(9)");
    due(new StyleFixes().make(1), 0, "make(1) of a new object");
  }

  static void promise16_tillStopped() {
    says("or THE TEXT would have more than 200 bytes (STOPPED)");
    StyleFixes x = desk("x".repeat(190), "5:wa>wa'y'");
    due(x.make(30), 10, "make(30)");
    due(x.is(0), 200, "200 bytes can be");
    due(x.make(30), 0, "201 can't");
    due(x.is(0), 200, "is(0)");
  }

  static void promise16_aRoundIsMadeWholeOrNot() {
    says("or THE TEXT would have more than 200 bytes (STOPPED)");
    StyleFixes x = desk("x".repeat(150) + " yyyyy", "5:wa>wawa");
    due(x.make(5), 0, "make(5), 311 bytes together");
    due(x.is(0), 156, "is(0)");
    due(x.apply(1), 161, "though one alone can be");
    x = desk("x".repeat(150) + " " + "y".repeat(49), "5:'" + "x".repeat(150) + "'>;5:wa>wawa");
    x.yields(0, 1);
    due(x.make(1), 1, "one longer and one shorter");
    due(x.is(0), 99, "is(0)");
  }

  static void promise16_whatChangesTogetherMayPass200OnTheWay() {
    says("each SPAN has what stands in its place");
    StyleFixes x = desk("a " + "x".repeat(197) + "!", "9:'a'>'" + "y".repeat(100) + "';9:wa'!'>");
    due(x.is(0), 200, "is(0)");
    due(set(x), "0 1", "the set");
    due(x.make(1), 1, "make(1)");
    due(x.is(0), 101, "is(0)");
    due(x.at(99), 'y', "at(99)");
    due(x.at(100), ' ', "at(100)");
  }

  static void promise16_spansAndPaintsGoAlong() {
    says("SILENCED spans and PAINTS go along (with their bytes)");
    StyleFixes x = desk("a,b,c,d", "5:'a'>'';5:'b'>'xx';5:'d'>'z'");
    x.silence(5, 6);
    x.silence(1, 2);
    x.silence(4, 5);
    x.silence(3, 4);
    due(x.make(1), 1, "make(1)");
    due(read(x), ",xx,c,z", "the text");
    due(spans(x), "5-6 0-1 4-5 3-4", "silenced spans");
    due(paints(x), ".11...2", "paints");
  }

  static void promise16_eightSpansGoAlong() {
    says("SILENCED spans and PAINTS go along (with their bytes)");
    StyleFixes x = desk("a,,,,,,,,b", "5:'a'>'xyz';5:'b'>");
    for (int i = 8; i >= 1; i--) x.silence(i, i + 1);
    due(x.make(1), 1, "make(1)");
    due(read(x), "xyz,,,,,,,,", "the text");
    due(spans(x), "10-11 9-10 8-9 7-8 6-7 5-6 4-5 3-4", "silenced spans");
    due(paints(x), "000........", "paints");
  }

  static void promise16_noRoundIsAStepToo() {
    says("ROUNDS made (together)");
    StyleFixes x = new StyleFixes();
    due(x.make(30), 0, "make(30)");
    due(x.steps(), 1, "steps()");
    x.make(31);
    due(x.steps(), 1, "what is refused is no step");
  }

  // ---- promise 17: undo ----

  static void promise17_thereIsNone() {
    says("The latest STEP is taken back: how many can be yet. NONE: there is none.");
    StyleFixes x = new StyleFixes();
    due(x.undo(), -1, "undo() of a new object");
    x.most(3);
    due(x.undo(), 0, "undo() of one");
    due(x.undo(), -1, "undo() of none");
    due(x.is(8), 20, "is(8)");
  }

  static void promise17_eachKindOfStep() {
    says("TEXTS, RULES told, ON, OFF, SILENCED, HEARD again, MEASURE, MOST told, YIELDS told, wiped, ROUNDS made (together), FINDINGS made alone, a BYTE told");
    List<Consumer<StyleFixes>> kinds = new ArrayList<>();
    kinds.add(x -> text(x, "other"));
    kinds.add(x -> rules(x, "9:wa>'q'"));
    kinds.add(x -> x.on(2, true));
    kinds.add(x -> x.on(0, false));
    kinds.add(x -> x.silence(0, 1));
    kinds.add(x -> x.hear(0));
    kinds.add(x -> x.measure(0));
    kinds.add(x -> x.most(0));
    kinds.add(x -> x.yields(0, 1));
    kinds.add(StyleFixes::insist);
    kinds.add(x -> x.make(5));
    kinds.add(x -> x.apply(1));
    kinds.add(x -> x.put(0, '1'));
    for (int k = 0; k < kinds.size(); k++) {
      StyleFixes x = busy();
      x.put(3, 'a');
      String before = all(x);
      int steps = x.steps();
      kinds.get(k).accept(x);
      due(all(x).equals(before), false, "kind " + k + " changes nothing");
      while (x.steps() > steps) x.undo();
      due(all(x), before, "undo() of kind " + k);
    }
  }

  static void promise17_roundsTogether() {
    says("ROUNDS made (together)");
    StyleFixes x = desk("0", "5:na>+na");
    x.make(30);
    due(read(x), "30", "the text");
    due(x.undo(), 2, "undo()");
    due(read(x), "0", "30 rounds are one step");
    due(x.is(9), 0, "is(9)");
    due(x.book(-1, 0), 0, "book(-1, 0)");
  }

  static void promise17_theLatestFirst() {
    says("the latest 20, the latest first");
    StyleFixes x = new StyleFixes();
    for (int i = 1; i <= 5; i++) x.most(i);
    for (int i = 4; i >= 1; i--) {
      due(x.undo(), i, "undo()");
      due(x.is(8), i, "is(8)");
    }
    due(x.undo(), 0, "undo()");
    due(x.is(8), 20, "is(8)");
  }

  static void promise17_twentyAtMost() {
    says("the latest 20, the latest first");
    for (int told : new int[] {19, 20, 21, 22, 39, 40, 41, 60}) {
      StyleFixes x = new StyleFixes();
      for (int i = 1; i <= told; i++) x.most(i % 21);
      int can = Math.min(20, told);
      for (int i = 1; i <= can; i++) {
        due(x.undo(), can - i, "undo() " + i + " of " + told);
        due(x.is(8), told == i ? 20 : (told - i) % 21, "is(8)");
      }
      due(x.undo(), -1, "one more of " + told);
    }
  }

  static void promise17_theTapeStays() {
    says("(all is as ahead of it, but the tape and the latest FAULT)");
    StyleFixes x = desk("a", "");
    tape(x, "xyz");
    x.undo();
    due(x.is(10), 3, "is(10)");
    due(x.text(), 3, "text()");
    due(read(x), "xyz", "the text");
  }

  static void promise17_whatIsTakenBackCantBeMadeAgain() {
    says("The latest STEP is taken back");
    StyleFixes x = new StyleFixes();
    x.most(1);
    x.most(2);
    x.undo();
    x.most(3);
    due(x.steps(), 2, "steps()");
    x.undo();
    due(x.is(8), 1, "is(8)");
  }
}
