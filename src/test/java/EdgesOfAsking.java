/** Promises 18 to 51, what is asked, would be and was: a test for each sentence that names a boundary case. */
public final class EdgesOfAsking extends Edges {
  private static final String SIX = "1:sa>;1:sa>;1:sa>;1:sa>;1:sa>;1:sa>";

  public static void main(String[] args) { run(EdgesOfAsking.class, 18, 51); }

  // ---- promise 18: is ----

  static void promise18_others() {
    says("15 bytes of the longest LINE. NONE for others.");
    StyleFixes x = desk("a", "5:wa>");
    for (int what : new int[] {-1, -2, 16, 17, MIN, MAX}) due(x.is(what), -1, "is(" + what + ")");
  }

  static void promise18_whenThereIsNone() {
    says("0 bytes, 1 TOKENS, 2 RULES, 3 those that are ON (bits), 4 FINDINGS, 5 those that are SILENT");
    StyleFixes x = new StyleFixes();
    int[] want = {0, 0, 0, 0, 0, 0, 0, 0, 20, 0, 0, 0, 0, 0, 1, 0};
    for (int what = 0; what < want.length; what++) due(x.is(what), want[what], "is(" + what + ")");
  }

  static void promise18_whenThereAreMost() {
    says("0 bytes, 1 TOKENS, 2 RULES, 3 those that are ON (bits), 4 FINDINGS, 5 those that are SILENT");
    StyleFixes x = desk("!".repeat(200), SIX);
    due(x.is(0), 200, "is(0)");
    due(x.is(1), 200, "is(1)");
    due(x.is(2), 6, "is(2)");
    due(x.is(3), 63, "is(3)");
    due(x.is(4), 1200, "is(4)");
    due(x.is(5), 0, "is(5)");
    due(x.is(11), 0, "is(11)");
    due(x.is(14), 1, "is(14)");
    due(x.is(15), 200, "is(15)");
    for (int i = 1; i <= 5; i++) x.yields(0, i);
    due(x.is(11), 1000, "is(11), all but those of rule 0");
    for (int i = 1; i <= 3; i++) x.yields(1, i + 1);
    due(x.is(12), 8, "is(12)");
    for (int i = 0; i < 7; i++) x.silence(i, i + 1);
    due(x.is(5), 42, "is(5)");
    due(x.is(11), 965, "a silent one makes none yield");
    x.silence(0, 200);
    due(x.is(6), 8, "is(6)");
    due(x.is(5), 1200, "is(5)");
    due(x.is(11), 0, "is(11)");
    for (int i = 0; i < 15; i++) x.feed(0, 0, 0, 0, 0);
    due(x.is(10), 300, "is(10)");
  }

  static void promise18_silentOnesMayBeYielded() {
    says("A FINDING is YIELDED, if its SPAN shares a byte with that of a FINDING (SILENT ones aside) of a RULE to which its RULE YIELDS.");
    StyleFixes x = desk("a b", "5:'a'>'c';4:wa_wb>wb");
    x.yields(0, 1);
    x.silence(2, 3);
    due(x.finding(1, 5), 1, "a b is silent");
    due(x.finding(1, 7), 1, "and yielded to a, that is not");
    due(x.is(5), 1, "is(5)");
    due(x.is(11), 1, "is(11)");
    x.silence(0, 1);
    due(x.is(5), 2, "is(5)");
    due(x.is(11), 0, "is(11)");
  }

  static void promise18_bracketsThatArentPaired() {
    says("13 BRACKETS that aren't PAIRED");
    String[] texts = {"", "a", "()", "(", ")", ")(", "([)]", "{[()]}", "(]", "(".repeat(200), "(".repeat(100) + ")".repeat(100), "<>"};
    int[] want = {0, 0, 0, 1, 1, 2, 2, 0, 2, 200, 0, 0};
    for (int i = 0; i < texts.length; i++) due(desk(texts[i], "").is(13), want[i], "is(13) of " + texts[i]);
  }

  static void promise18_lines() {
    says("LINES: what is between bytes of 10 (one more than there are of these).");
    String[] texts = {"", "a", "\n", "a\n", "\na", "a\nbc", "abc\nd\n\n", "\n".repeat(200), "x".repeat(200), "x".repeat(99) + "\n" + "y".repeat(100)};
    int[] lines = {1, 1, 2, 2, 2, 2, 4, 201, 1, 2};
    int[] longest = {0, 1, 0, 1, 1, 2, 3, 0, 200, 100};
    for (int i = 0; i < texts.length; i++) {
      StyleFixes x = desk(texts[i], "");
      due(x.is(14), lines[i], "is(14) of text " + i);
      due(x.is(15), longest[i], "is(15) of text " + i);
    }
  }

  static void promise18_roundsInAllGoOnBeyondTheBook() {
    says("9 how many ROUNDS were made in all");
    StyleFixes x = desk("0", "5:na>+na");
    x.make(30);
    x.make(30);
    due(x.is(9), 60, "is(9)");
    text(x, "0");
    rules(x, "5:na>-na");
    due(x.is(9), 60, "is(9) behind a text and rules told");
    x.undo();
    x.undo();
    x.undo();
    due(x.is(9), 30, "is(9), 30 taken back");
  }

  // ---- promise 19: at ----

  static void promise19_thereIsNone() {
    says("A byte of THE TEXT. NONE: there is none.");
    StyleFixes x = desk("abc", "");
    due(x.at(0), 'a', "at(0)");
    due(x.at(2), 'c', "at(2)");
    for (int i : new int[] {-1, 3, 199, 200, MIN, MAX}) due(x.at(i), -1, "at(" + i + ")");
    text(x, "~".repeat(200));
    due(x.at(199), '~', "at(199) of 200");
    due(x.at(200), -1, "at(200) of 200");
    text(x, "x");
    due(x.at(1), -1, "at(1), where a longer text was");
  }

  // ---- promise 20: token ----

  static void promise20_sortsOfEveryByte() {
    says("WORDS (a to z, as many as there are), NUMBERS (0 to 9 likewise), BLANKS (32 and 10 likewise), SIGNS (any other byte, one each)");
    for (int b = 10; b < 127; b = b == 10 ? 32 : b + 1) {
      int sort = b >= 'a' && b <= 'z' ? 0 : b >= '0' && b <= '9' ? 1 : b == 32 || b == 10 ? 2 : 3;
      StyleFixes x = desk("" + (char) b + (char) b + (char) b, "");
      due(x.token(0, 0), sort, "sort of byte " + b);
      due(x.token(0, 2), sort == 3 ? 1 : 3, "bytes of the token of byte " + b);
      due(x.is(1), sort == 3 ? 3 : 1, "tokens of three bytes " + b);
    }
  }

  static void promise20_asManyAsThereAre() {
    says("WORDS (a to z, as many as there are), NUMBERS (0 to 9 likewise), BLANKS (32 and 10 likewise)");
    StyleFixes x = desk("az09 \n \nAa0", "");
    int[][] want = {{0, 0, 2}, {1, 2, 2}, {2, 4, 4}, {3, 8, 1}, {0, 9, 1}, {1, 10, 1}};
    due(x.is(1), 6, "is(1)");
    for (int t = 0; t < want.length; t++) {
      for (int what = 0; what < 3; what++) due(x.token(t, what), want[t][what], "token(" + t + ", " + what + ")");
    }
    x = desk("x".repeat(200), "");
    due(x.token(0, 2), 200, "a word of 200 bytes");
  }

  static void promise20_thereIsNone() {
    says("NONE: there is none, and for others.");
    StyleFixes x = desk("a b", "");
    for (int i : new int[] {-1, 3, 199, 200, MIN, MAX}) {
      for (int what = 0; what < 3; what++) due(x.token(i, what), -1, "token(" + i + ", " + what + ")");
    }
    for (int what : new int[] {-1, 3, MIN, MAX}) due(x.token(0, what), -1, "token(0, " + what + ")");
    due(new StyleFixes().token(0, 0), -1, "token(0, 0) of no text");
    x = desk("!".repeat(200), "");
    due(x.token(199, 1), 199, "token(199, 1) of 200");
    due(x.token(199, 2), 1, "token(199, 2) of 200");
    due(x.token(200, 1), -1, "token(200, 1) of 200");
  }

  // ---- promise 21: tokenAt ----

  static void promise21_thereIsNone() {
    says("In which TOKEN a byte is. NONE: there is none.");
    StyleFixes x = desk("ab  1", "");
    int[] want = {0, 0, 1, 1, 2};
    for (int i = 0; i < want.length; i++) due(x.tokenAt(i), want[i], "tokenAt(" + i + ")");
    for (int i : new int[] {-1, 5, 199, 200, MIN, MAX}) due(x.tokenAt(i), -1, "tokenAt(" + i + ")");
    due(new StyleFixes().tokenAt(0), -1, "tokenAt(0) of no text");
    x = desk("!".repeat(200), "");
    due(x.tokenAt(199), 199, "tokenAt(199) of 200");
    due(x.tokenAt(200), -1, "tokenAt(200) of 200");
  }

  // ---- promise 22: rule ----

  static void promise22_others() {
    says("Of a RULE: 0 WEIGHT, 1 ELEMENTS, 2 PARTS, 3 ON (1, 0), 4 FINDINGS. NONE for others.");
    StyleFixes x = desk("a", "5:wa>;6:wa>");
    for (int r : new int[] {-1, 2, 6, MIN, MAX}) {
      for (int what = 0; what < 5; what++) due(x.rule(r, what), -1, "rule(" + r + ", " + what + ")");
    }
    for (int what : new int[] {-1, 5, MIN, MAX}) due(x.rule(0, what), -1, "rule(0, " + what + ")");
    due(new StyleFixes().rule(0, 0), -1, "rule(0, 0) without rules");
  }

  static void promise22_fewestAndMost() {
    says("6 ELEMENTS and 6 PARTS at most");
    StyleFixes x = desk("!".repeat(200), "1:sa>;99:sasbscsdsasa>sasasasasasa;50:sa>sa");
    int[][] want = {{1, 1, 0, 1, 200}, {99, 6, 6, 1, 0}, {50, 1, 1, 1, 0}};
    for (int r = 0; r < 3; r++) {
      for (int what = 0; what < 5; what++) due(x.rule(r, what), want[r][what], "rule(" + r + ", " + what + ")");
    }
    x.on(0, false);
    due(x.rule(0, 3), 0, "rule(0, 3), off");
    due(x.rule(0, 4), 0, "rule(0, 4), off");
  }

  static void promise22_findingsThatAreSilentOrYielded() {
    says("SILENT: the SPAN shares a byte");
    StyleFixes x = desk("a a", "5:'a'>'b';6:'a'>'c'");
    x.silence(0, 1);
    x.yields(0, 1);
    due(x.rule(0, 4), 2, "rule(0, 4)");
    due(x.rule(1, 4), 2, "rule(1, 4)");
  }

  // ---- promise 23: fits ----

  static void promise23_upToTheLastToken() {
    says("if ELEMENT by ELEMENT the TOKENS from there on are of their sorts");
    StyleFixes x = desk("a b c", "1:wa_wb>;1:wa>;1:wa_wb_wc_>");
    for (int t = 0; t < 5; t++) {
      due(x.fits(0, t), t == 0 || t == 2, "fits(0, " + t + ")");
      due(x.fits(1, t), t % 2 == 0, "fits(1, " + t + ")");
      due(x.fits(2, t), false, "fits(2, " + t + ")");
    }
    x = desk("!".repeat(200), "1:sasasasasasa>");
    due(x.fits(0, 194), true, "fits(0, 194), the last six of 200");
    due(x.fits(0, 195), false, "fits(0, 195)");
    due(x.fits(0, 199), false, "fits(0, 199)");
  }

  static void promise23_falseForOthers() {
    says("Whether a RULE (ON or not) FITS from a TOKEN on. False for others.");
    StyleFixes x = desk("a b c", "1:wa>");
    due(x.fits(0, 4), true, "fits(0, 4)");
    for (int t : new int[] {-1, 5, 199, 200, 201, MIN, MAX}) due(x.fits(0, t), false, "fits(0, " + t + ")");
    for (int r : new int[] {-1, 1, 6, MIN, MAX}) due(x.fits(r, 0), false, "fits(" + r + ", 0)");
    due(new StyleFixes().fits(0, 0), false, "fits(0, 0) of a new object");
  }

  static void promise23_onOrNot() {
    says("Whether a RULE (ON or not) FITS from a TOKEN on.");
    StyleFixes x = desk("a", "1:wa>wa");
    due(x.fits(0, 0), true, "fits(0, 0), though nothing is another");
    x.on(0, false);
    due(x.fits(0, 0), true, "fits(0, 0), off");
    x.silence(0, 1);
    due(x.fits(0, 0), true, "fits(0, 0), silenced");
  }

  static void promise23_likeNamesStandForLikeBytes() {
    says("like names of one sort stand for TOKENS of like bytes");
    String[] texts = {"a a b", "a b a", "a b b", "b a b", "a a a", "aa a aa", "a aa a"};
    boolean[] firstTwo = {true, false, false, false, true, false, false};
    boolean[] ends = {false, true, false, true, true, true, true};
    boolean[] lastTwo = {false, false, true, false, true, false, false};
    for (int i = 0; i < texts.length; i++) {
      StyleFixes x = desk(texts[i], "1:wa_wa_wb>;1:wa_wb_wa>;1:wa_wb_wb>;1:wa_wb_wc>");
      due(x.fits(0, 0), firstTwo[i], "fits(0, 0) of " + texts[i]);
      due(x.fits(1, 0), ends[i], "fits(1, 0) of " + texts[i]);
      due(x.fits(2, 0), lastTwo[i], "fits(2, 0) of " + texts[i]);
      due(x.fits(3, 0), true, "unlike names may stand for like bytes");
    }
  }

  static void promise23_likeNamesOfTwoSorts() {
    says("like names of one sort stand for TOKENS of like bytes");
    StyleFixes x = desk("a1!b2?", "1:wanasa>;1:wanasawanasa>;1:wanasawbnbsb>");
    due(x.fits(0, 0), true, "fits(0, 0)");
    due(x.fits(1, 0), false, "fits(1, 0)");
    due(x.fits(2, 0), true, "fits(2, 0)");
    x = desk("x.a1.b1", "1:wanasawbna>");
    due(x.fits(0, 2), true, "not the first token of the text");
  }

  static void promise23_aTokenWithJustTheseBytes() {
    says("' bytes ' (a TOKEN with just these bytes)");
    StyleFixes x = desk("cat cats ca  c7 70 \n 7", "1:'cat'>;1:'7'>;1:' '>;1:'  '>");
    int[][] where = {{0}, {7, 11}, {1, 3, 8}, {5}};
    for (int r = 0; r < 4; r++) {
      for (int t = 0; t < x.is(1); t++) {
        boolean want = false;
        for (int w : where[r]) want |= w == t;
        due(x.fits(r, t), want, "fits(" + r + ", " + t + ")");
      }
    }
  }

  static void promise23_blanksOfAnyKind() {
    says("_ (BLANKS)");
    for (String blanks : new String[] {" ", "\n", "   ", " \n ", "\n\n"}) due(desk("a" + blanks, "1:wa_>").fits(0, 0), true, "fits(0, 0)");
    due(desk("a!", "1:wa_>").fits(0, 0), false, "a sign is no blank");
  }

  // ---- promise 24: finding ----

  static void promise24_thereIsNone() {
    says("NONE: there is none, and for others.");
    StyleFixes x = desk("a b", "5:wa>");
    for (int i : new int[] {-1, 2, 1199, 1200, MIN, MAX}) {
      for (int what = 0; what < 8; what++) due(x.finding(i, what), -1, "finding(" + i + ", " + what + ")");
    }
    for (int what : new int[] {-1, 8, MIN, MAX}) due(x.finding(0, what), -1, "finding(0, " + what + ")");
    due(new StyleFixes().finding(0, 0), -1, "finding(0, 0) of a new object");
    x = desk("!".repeat(200), SIX);
    due(x.finding(1199, 0), 5, "finding(1199, 0) of 1200");
    due(x.finding(1199, 1), 199, "finding(1199, 1) of 1200");
    due(x.finding(1199, 2), 200, "finding(1199, 2) of 1200");
    due(x.finding(1200, 0), -1, "finding(1200, 0) of 1200");
  }

  static void promise24_inOrder() {
    says("in order by the SPAN's beginning, its end, RULES");
    StyleFixes x = desk("a b c", "1:wa_wb_wc>;1:_wa>;1:wa>;1:wa_wb>;1:'a'>;1:'b'>");
    int[][] want = {{2, 0, 1}, {4, 0, 1}, {3, 0, 3}, {0, 0, 5}, {1, 1, 3}, {2, 2, 3}, {5, 2, 3}, {3, 2, 5}, {1, 3, 5}, {2, 4, 5}};
    due(x.is(4), want.length, "is(4)");
    for (int i = 0; i < want.length; i++) {
      for (int what = 0; what < 3; what++) due(x.finding(i, what), want[i][what], "finding(" + i + ", " + what + ")");
    }
  }

  static void promise24_somethingElse() {
    says("if what stands in its place then is something else");
    String[] rules = {"wa>wa", "wa_wb>wa' 'wb", "'aba'>'aba'", "wa>~wa", "wa>''wa''", "wa_wb>wb' 'wa", "wa>wa' '"};
    int[] want = {0, 0, 0, 0, 0, 1, 2};
    for (int i = 0; i < rules.length; i++) due(desk("aba bb", "1:" + rules[i]).is(4), want[i], "is(4) of " + rules[i]);
    due(desk("7 007 0 1234567890", "1:na>+na").is(4), 3, "is(4), ten digits stay");
    due(desk("7 007 0 00", "1:na>-na").is(4), 3, "is(4), 0 stays, 00 does not");
    due(desk("a\nb", "1:wa_wb>wa' 'wb").is(4), 1, "is(4), 10 is not 32");
  }

  static void promise24_ofRulesThatAreOn() {
    says("FINDINGS: of each RULE that is ON and FITS what is in its SPAN");
    StyleFixes x = desk("a", "1:wa>;2:wa>");
    x.on(0, false);
    due(x.is(4), 1, "is(4)");
    due(x.finding(0, 0), 1, "finding(0, 0)");
    x.on(1, false);
    due(x.is(4), 0, "is(4)");
    due(x.finding(0, 0), -1, "finding(0, 0)");
  }

  static void promise24_inTheSetOrNot() {
    says("6 whether it is in THE SET (1, 0)");
    StyleFixes x = desk("a b c", "5:wa>");
    for (int most = 3; most >= 0; most--) {
      x.most(most);
      for (int i = 0; i < 3; i++) due(x.finding(i, 6), i < most ? 1 : 0, "finding(" + i + ", 6), most " + most);
    }
    due(x.finding(3, 6), -1, "finding(3, 6)");
  }

  static void promise24_yieldedByASharedByte() {
    says("A FINDING is YIELDED, if its SPAN shares a byte with that of a FINDING (SILENT ones aside) of a RULE to which its RULE YIELDS.");
    StyleFixes x = desk("a b c d", "5:'b'>;4:wa>;3:'a'_>;2:'b'_'c'_'d'>;1:'c'_>");
    for (int r = 1; r < 5; r++) x.yields(0, r);
    // 0 a by 1, 1 "a " by 2, 2 b by 0, 3 b by 1, 4 "b c d" by 3, 5 c by 1, 6 "c " by 4, 7 d by 1
    int[] want = {0, 0, 0, 1, 1, 0, 0, 0};
    for (int i = 0; i < want.length; i++) due(x.finding(i, 7), want[i], "finding(" + i + ", 7)");
    due(x.is(11), 2, "is(11)");
    x.on(0, false);
    due(x.is(11), 0, "is(11), none of that rule when it is off");
  }

  static void promise24_yieldedByFarElements() {
    says("if its SPAN shares a byte with that of a FINDING");
    StyleFixes x = desk("a.b.cd", "9:'a''.''b''.''cd'>;1:'cd'>");
    x.yields(0, 1);
    due(x.finding(1, 7), 1, "the fifth token of a span");
    x = desk("a.b.c,d,", "9:'a''.''b''.''c'','>;1:','>;1:'a'>");
    x.yields(0, 1);
    due(x.finding(2, 1), 5, "finding(2, 1)");
    due(x.finding(2, 7), 1, "the sixth token of a span");
    due(x.finding(3, 7), 0, "one behind it");
    x = desk("a.b.c,d,", "9:',''d'>;1:'a''.''b''.''c'','>");
    x.yields(0, 1);
    due(x.finding(0, 7), 1, "a span of six whose sixth token is shared");
  }

  static void promise24_yieldsByChainsAreNotFollowed() {
    says("of a RULE to which its RULE YIELDS");
    StyleFixes x = desk("a", "3:wa>;2:'q'>;1:wa>'b'");
    x.yields(0, 1);
    x.yields(1, 2);
    due(x.is(11), 0, "2 yields to 1, which has none, and not to 0");
    x.yields(0, 2);
    due(x.is(11), 1, "2 yields to 0");
  }

  static void promise24_yieldedOnesMakeOthersYield() {
    says("of a FINDING (SILENT ones aside) of a RULE to which its RULE YIELDS");
    StyleFixes x = desk("a b c", "1:'a'_'b'>;1:'b'>;1:'b'_'c'>");
    x.yields(0, 1);
    x.yields(1, 2);
    due(x.finding(0, 7), 0, "a b");
    due(x.finding(1, 7), 1, "b yields to a b");
    due(x.finding(2, 7), 1, "b c yields to b, yielded itself");
  }

  // ---- promise 25: fresh ----

  static void promise25_thereIsNone() {
    says("Byte k of what stands in the place of a FINDING's SPAN. NONE: there is none.");
    StyleFixes x = desk("a b", "5:'a'>'xyz';5:'b'>''");
    due(x.fresh(0, 0), 'x', "fresh(0, 0)");
    due(x.fresh(0, 2), 'z', "fresh(0, 2)");
    for (int k : new int[] {-1, 3, MIN, MAX}) due(x.fresh(0, k), -1, "fresh(0, " + k + ")");
    for (int k : new int[] {-1, 0, 1, MIN, MAX}) due(x.fresh(1, k), -1, "fresh(1, " + k + "), no bytes");
    for (int i : new int[] {-1, 2, MIN, MAX}) due(x.fresh(i, 0), -1, "fresh(" + i + ", 0)");
    due(new StyleFixes().fresh(0, 0), -1, "fresh(0, 0) of a new object");
  }

  static void promise25_numbersOneMore() {
    says("+n: the NUMBER one more");
    String[] from = {"0", "8", "9", "10", "19", "99", "999", "99999999", "99999998", "999999998", "999999999", "123456789"};
    String[] to = {"1", "9", "10", "11", "20", "100", "1000", "100000000", "99999999", "999999999", "1000000000", "123456790"};
    for (int i = 0; i < from.length; i++) due(fresh(desk(from[i], "5:na>+na"), 0), to[i], "one more than " + from[i]);
  }

  static void promise25_numbersOneLess() {
    says("-n: one less (0 at least");
    String[] from = {"1", "2", "10", "20", "100", "1000", "100000000", "999999999", "00"};
    String[] to = {"0", "1", "9", "19", "99", "999", "99999999", "999999998", "0"};
    for (int i = 0; i < from.length; i++) due(fresh(desk(from[i], "5:na>-na"), 0), to[i], "one less than " + from[i]);
    due(fresh(desk("0", "5:na>-na'.'"), 0), "0.", "one less than 0");
  }

  static void promise25_numbersWithout0sAhead() {
    says("both without 0s ahead");
    String[] from = {"007", "000", "010", "009", "000000009", "000000000", "000000001", "099"};
    String[] to = {"8/6", "1/0", "11/9", "10/8", "10/8", "1/0", "2/0", "100/98"};
    for (int i = 0; i < from.length; i++) due(fresh(desk(from[i], "5:na>+na'/'-na"), 0), to[i], "of " + from[i]);
    due(fresh(desk("007", "5:na>na'.'"), 0), "007.", "a name stands for its bytes");
  }

  static void promise25_numbersOfMoreThan9Digits() {
    says("of a NUMBER of more than 9 digits: its bytes");
    for (String n : new String[] {"1000000000", "0000000000", "0000000001", "9999999999", "2147483647", "1".repeat(100)}) {
      due(fresh(desk(n, "5:na>+na'/'-na"), 0), n + "/" + n, "of " + n);
    }
  }

  static void promise25_aWordFromItsEndOn() {
    says("~w: the WORD from its end on");
    due(fresh(desk("abc", "5:wa>~wa"), 0), "cba", "of abc");
    due(fresh(desk("a", "5:wa>~wa'.'"), 0), "a.", "of a");
    due(desk("aba", "5:wa>~wa").is(4), 0, "aba is no other");
    due(fresh(desk("x".repeat(199) + "y", "5:wa>~wa"), 0), "y" + "x".repeat(199), "of 200 bytes");
  }

  static void promise25_partsOneBehindTheOther() {
    says("What stands in its place: PARTS one behind the other: names: those bytes");
    due(fresh(desk("ab 12,cd", "5:wa_nasawb>wb'-'sana~wa+na"), 0), "cd-,12ba13", "six parts");
    due(fresh(desk("ab ab", "5:wa_wa>wawawa"), 0), "ababab", "a name told twice");
    StyleFixes x = desk("a".repeat(199) + "b", "5:wa>wa~wawawawa'" + "x".repeat(281) + "'");
    due(x.finding(0, 3), 1281, "finding(0, 3), the longest that can be told");
    due(x.fresh(0, 199), 'b', "fresh(0, 199)");
    due(x.fresh(0, 200), 'b', "fresh(0, 200)");
    due(x.fresh(0, 999), 'b', "fresh(0, 999)");
    due(x.fresh(0, 1280), 'x', "fresh(0, 1280)");
    due(x.fresh(0, 1281), -1, "fresh(0, 1281)");
  }

  // ---- promise 26: clashes ----

  static void promise26_shareAByte() {
    says("How many FINDINGS (not SILENT, unlike it) share a byte with one.");
    StyleFixes x = desk("a b c", "1:wa_>;1:_wa>;1:wa>;1:'b'>");
    // 0 a by 2, 1 "a " by 0, 2 " b" by 1, 3 b by 2, 4 b by 3, 5 "b " by 0, 6 " c" by 1, 7 c by 2
    int[] want = {1, 2, 4, 3, 3, 4, 2, 1};
    due(x.is(4), want.length, "is(4)");
    for (int i = 0; i < want.length; i++) due(x.clashes(i), want[i], "clashes(" + i + ")");
  }

  static void promise26_notThoseSideBySide() {
    says("How many FINDINGS (not SILENT, unlike it) share a byte with one.");
    StyleFixes x = desk("!!!", "1:sa>");
    for (int i = 0; i < 3; i++) due(x.clashes(i), 0, "clashes(" + i + ")");
    x = desk("!!!!!!!", "1:sasasasasasa>;1:sa>");
    // at 0: by 1, by 0 (six); at 1: by 1, by 0 (six); at 2 .. 6: by 1
    due(x.is(4), 9, "is(4)");
    due(x.clashes(1), 7, "clashes(1), the six and the other six");
    due(x.clashes(3), 7, "clashes(3)");
    due(x.clashes(8), 1, "clashes(8), the sixth token of the later one");
    due(x.clashes(0), 1, "clashes(0)");
  }

  static void promise26_silentOnesAside() {
    says("How many FINDINGS (not SILENT, unlike it) share a byte with one.");
    StyleFixes x = desk("a b", "1:wa_wb>wb;1:wa>;1:wa>'z'");
    // 0 a by 1, 1 a by 2, 2 "a b" by 0, 3 b by 1, 4 b by 2
    due(x.clashes(0), 2, "clashes(0)");
    due(x.clashes(2), 4, "clashes(2)");
    x.silence(2, 3);
    due(x.clashes(0), 1, "clashes(0)");
    due(x.clashes(2), 2, "clashes(2), silent itself");
    due(x.clashes(3), 0, "clashes(3), silent itself");
    x.yields(1, 2);
    due(x.clashes(0), 1, "yielded ones are not aside");
  }

  static void promise26_thereIsNone() {
    says("How many FINDINGS (not SILENT, unlike it) share a byte with one. NONE: there is none.");
    StyleFixes x = desk("a b", "1:wa>");
    for (int i : new int[] {-1, 2, 1200, MIN, MAX}) due(x.clashes(i), -1, "clashes(" + i + ")");
    due(new StyleFixes().clashes(0), -1, "clashes(0) of a new object");
    due(desk("!".repeat(200), SIX).clashes(1199), 5, "clashes(1199) of 1200");
  }

  // ---- promise 27: set ----

  static void promise27_thereIsNone() {
    says("THE SET: how many (i NONE); the i-th FINDING of it. NONE: there is none.");
    StyleFixes x = desk("a b", "1:wa>");
    due(x.set(-1), 2, "set(-1)");
    due(x.set(0), 0, "set(0)");
    due(x.set(1), 1, "set(1)");
    for (int i : new int[] {-2, 2, 19, 20, 200, MIN, MAX}) due(x.set(i), -1, "set(" + i + ")");
    due(new StyleFixes().set(-1), 0, "set(-1) of a new object");
    due(new StyleFixes().set(0), -1, "set(0) of a new object");
  }

  static void promise27_theGreatestValue() {
    says("no two of which share a byte, with the greatest VALUE together");
    due(set(desk("a b c", "5:wa_wb>wb;3:wa>")), "0 2 4", "9 by three is more than 8 by two");
    due(set(desk("a b c", "99:wa_wb_wc>;50:wa>;49:_>")), "0 2 3 4 5", "all five are more than one");
    due(set(desk("!!", "1:sasb>;99:sa>")), "0 2", "many of great value");
  }

  static void promise27_ofLikeOnesTheFewest() {
    says("of like ones the fewest");
    due(set(desk("a b", "6:wa_wb>wb;3:wa>")), "1", "6 by one, not by two");
    due(set(desk("a b", "5:wa_wb>wb;3:wa>")), "0 2", "but 6 by two, not 5 by one");
    due(set(desk("a b c", "9:wa_wb_wc>;6:wa_wb>;3:wa>")), "2", "9 by one, not by two or three");
    due(set(desk("!".repeat(20), "20:sasb>;10:sa>")).split(" ").length, 10, "ten of two, not twenty");
  }

  static void promise27_noneOfNoValue() {
    says("of like ones the fewest");
    StyleFixes x = desk("x".repeat(101) + " b", "1:wa>");
    x.measure(1);
    due(x.finding(0, 4), 0, "finding(0, 4)");
    due(set(x), "1", "one of no value is one too many");
    due(x.make(1), 1, "make(1)");
    due(x.make(1), 0, "still, though there is a finding");
    due(x.is(4), 1, "is(4)");
    due(x.course(0), 0, "course(0)");
  }

  static void promise27_theLesserWhereTheyFirstDiffer() {
    says("of like ones that with the lesser FINDING where they first differ");
    due(set(desk("a b c", "4:wa_wb>wb")), "0", "a b, not b c");
    due(set(desk("a b", "4:wa>;4:wa>'z'")), "0 2", "the lesser rule of each");
    StyleFixes x = desk("a b c d e", "4:wa_wb>wb");
    due(set(x), "0 2", "0 and 2, not 0 and 3 or 1 and 3");
    x.most(1);
    due(set(x), "0", "one alone");
    x = desk("a b c", "4:wa_wb>wb;3:wa>'z'");
    x.most(2);
    due(set(x), "0 3", "0 and 3, not 1 and 4");
  }

  static void promise27_asManyAsMost() {
    says("as many as MOST");
    StyleFixes x = desk("a b c d", "5:wa_wb>wb;4:wa>'z';3:wa_wb_wc>");
    // 0 a, 1 a b, 2 a b c, 3 b, 4 b c, 5 b c d, 6 c, 7 c d, 8 d
    due(set(x), "0 3 6 8", "four");
    x.most(3);
    due(set(x), "0 3 7", "4 and 4 and 5");
    x.most(2);
    due(set(x), "1 7", "5 and 5");
    x.most(1);
    due(set(x), "1", "5");
    x.most(0);
    due(set(x), "", "none");
  }

  static void promise27_fewestUnderMostToo() {
    says("of like ones the fewest; of like ones that with the lesser FINDING where they first differ");
    StyleFixes x = desk("a b c d", "8:wa_wb>wb;4:wa>'z'");
    x.most(3);
    due(set(x), "1 5", "8 and 8, not 8 and 4 and 4");
    x.most(1);
    due(set(x), "1", "the first of three like ones");
  }

  static void promise27_fewestUnderMostThoughMoreWouldBeWorthMore() {
    says("of like ones the fewest; of like ones that with the lesser FINDING where they first differ");
    StyleFixes x = desk("a b c d e !", "5:'a'_'b'_'c'>;4:'d'_'e'>;2:wa>'z'");
    // 0 a, 1 a b c, 2 b, 3 c, 4 d, 5 d e, 6 e
    due(set(x), "0 2 3 5", "10 by four, not by five");
    x.most(3);
    due(set(x), "1 5", "9 by two, not by three");
    x.most(1);
    due(set(x), "1", "5 by one");
  }

  static void promise27_asManyAsMostBehindALongerText() {
    says("as many as MOST");
    StyleFixes x = desk("a b c d " + "!".repeat(60), "5:wa_wb>wb;4:wa>'z';9:sa>");
    for (int most : new int[] {20, 7, 3}) {
      x.most(most);
      due(x.worth(), 9 * most, "worth() of the longer one, most " + most);
    }
    text(x, "!".repeat(5));
    due(x.worth(), 27, "worth() of five, most 3");
    text(x, "a b c d");
    // 0 a, 1 a b, 2 b, 3 b c, 4 c, 5 c d, 6 d
    due(set(x), "0 2 5", "4 and 4 and 5");
    x.most(2);
    due(set(x), "1 5", "5 and 5");
  }

  static void promise27_fullOfTokens() {
    says("no two of which share a byte");
    StyleFixes x = desk("!".repeat(200), "99:sa>;98:sasb>");
    x.measure(1);
    due(x.set(-1), 20, "set(-1)");
    for (int i = 0; i < 20; i++) due(x.set(i), 2 * i, "set(" + i + ")");
    due(x.worth(), 198000, "worth()");
    x = desk("!".repeat(200), "1:sasbscsdsasa>");
    due(x.set(-1), 20, "set(-1) of spans of six");
  }

  static void promise27_neitherSilentNorYielded() {
    says("of FINDINGS that are neither SILENT nor YIELDED");
    StyleFixes x = desk("a b c", "9:'a'>;1:wa>'z'");
    // 0 a by 0, 1 a by 1, 2 b by 1, 3 c by 1
    due(set(x), "0 2 3", "all");
    x.silence(0, 1);
    due(set(x), "2 3", "a is silent");
    x.hear(0);
    x.yields(1, 0);
    due(set(x), "1 2 3", "a by 0 yields, though it is worth more");
  }

  // ---- promise 28: worth ----

  static void promise28_none() {
    says("VALUE of THE SET together.");
    due(new StyleFixes().worth(), 0, "worth() of a new object");
    StyleFixes x = desk("a", "5:wa>");
    due(x.worth(), 5, "worth()");
    x.most(0);
    due(x.worth(), 0, "worth(), most 0");
    x.most(20);
    x.silence(0, 1);
    due(x.worth(), 0, "worth(), silent");
  }

  // ---- promise 29: chosen ----

  static void promise29_others() {
    says("How many FINDINGS of THE SET are of a RULE. NONE for others.");
    StyleFixes x = desk("a b c", "9:'a'>;1:wa>'z';1:'q'>");
    due(x.chosen(0), 1, "chosen(0)");
    due(x.chosen(1), 2, "chosen(1)");
    due(x.chosen(2), 0, "chosen(2)");
    for (int r : new int[] {-1, 3, 6, MIN, MAX}) due(x.chosen(r), -1, "chosen(" + r + ")");
    due(new StyleFixes().chosen(0), -1, "chosen(0) of a new object");
  }

  // ---- promise 30: without ----

  static void promise30_others() {
    says("VALUE of THE SET together, were that RULE OFF. NONE for others.");
    StyleFixes x = desk("a", "9:'a'>;1:wa>'z'");
    for (int r : new int[] {-1, 2, 6, 32, MIN, MAX}) due(x.without(r), -1, "without(" + r + ")");
    due(new StyleFixes().without(0), -1, "without(0) of a new object");
  }

  static void promise30_changesNothing() {
    says("All that follows changes nothing but what is told.");
    StyleFixes x = desk("a b", "9:'a'>;1:wa>'z'");
    x.on(1, false);
    String before = all(x);
    due(x.without(0), 0, "without(0)");
    due(x.without(1), 9, "without(1), off already");
    due(all(x), before, "all");
  }

  static void promise30_otherFindingsTakeItsPlace() {
    says("VALUE of THE SET together, were that RULE OFF.");
    StyleFixes x = desk("a b", "9:wa_wb>;4:wa>");
    due(x.worth(), 9, "worth()");
    due(x.without(0), 8, "without(0)");
    due(x.without(1), 9, "without(1)");
    x.yields(1, 0);
    due(x.worth(), 8, "worth(), 0 yields");
    due(x.without(1), 9, "without(1), 0 yields to none then");
    x.most(1);
    due(x.without(0), 4, "without(0), most 1");
  }

  // ---- promise 31: span ----

  static void promise31_itDoesntFit() {
    says("How many bytes the SPAN has that a RULE (ON or not) FITS from a TOKEN on. NONE: it doesn't, and for others.");
    StyleFixes x = desk("ab  cd 1", "1:wa_wb>;1:wa>");
    x.on(0, false);
    due(x.span(0, 0), 6, "span(0, 0), off");
    due(x.span(1, 2), 2, "span(1, 2)");
    due(x.span(0, 1), -1, "span(0, 1)");
    due(x.span(0, 2), -1, "span(0, 2), the last is a number");
    for (int t : new int[] {-1, 4, 5, 199, 200, MIN, MAX}) due(x.span(0, t), -1, "span(0, " + t + ")");
    due(x.span(0, 4), -1, "span(0, 4), the last token");
    for (int r : new int[] {-1, 2, 6, MIN, MAX}) due(x.span(r, 0), -1, "span(" + r + ", 0)");
    due(new StyleFixes().span(0, 0), -1, "span(0, 0) of a new object");
    due(desk("x".repeat(200), "1:wa>").span(0, 0), 200, "span(0, 0) of 200 bytes");
  }

  // ---- promise 32: silenced ----

  static void promise32_thereIsNone() {
    says("SILENCED spans as told: the i-th: 0 from, 1 to (ahead of). NONE: there is none, and for others.");
    StyleFixes x = desk("x".repeat(200), "");
    due(x.silenced(0, 0), -1, "silenced(0, 0) of none");
    x.silence(199, 200);
    x.silence(0, 200);
    due(spans(x), "199-200 0-200", "as told");
    for (int i : new int[] {-1, 2, 7, 8, MIN, MAX}) {
      due(x.silenced(i, 0), -1, "silenced(" + i + ", 0)");
      due(x.silenced(i, 1), -1, "silenced(" + i + ", 1)");
    }
    for (int what : new int[] {-1, 2, MIN, MAX}) due(x.silenced(0, what), -1, "silenced(0, " + what + ")");
  }

  // ---- promise 33: isSilent ----

  static void promise33_falseForOthers() {
    says("Whether a byte is SILENCED. False for others.");
    StyleFixes x = desk("abcde", "");
    for (int i = 0; i < 5; i++) due(x.isSilent(i), false, "isSilent(" + i + ") without spans");
    x.silence(1, 3);
    x.silence(4, 5);
    for (int i = 0; i < 5; i++) due(x.isSilent(i), i == 1 || i == 2 || i == 4, "isSilent(" + i + ")");
    for (int i : new int[] {-1, 5, 199, 200, MIN, MAX}) due(x.isSilent(i), false, "isSilent(" + i + ")");
    due(new StyleFixes().isSilent(0), false, "isSilent(0) of no text");
  }

  // ---- promise 34: yielding ----

  static void promise34_thereIsNone() {
    says("The i-th YIELDS as told: 10 times the first RULE and the second. NONE: there is none.");
    StyleFixes x = desk("a", SIX);
    due(x.yielding(0), -1, "yielding(0) of none");
    int[][] eight = {{5, 0}, {4, 0}, {3, 0}, {2, 0}, {1, 0}, {5, 1}, {4, 1}, {3, 1}};
    for (int[] y : eight) x.yields(y[0], y[1]);
    for (int i = 0; i < 8; i++) due(x.yielding(i), 10 * eight[i][0] + eight[i][1], "yielding(" + i + ")");
    for (int i : new int[] {-1, 8, MIN, MAX}) due(x.yielding(i), -1, "yielding(" + i + ")");
    x.insist();
    due(x.yielding(0), -1, "yielding(0), wiped");
  }

  // ---- promise 35: paint ----

  static void promise35_noneOrThereIsNone() {
    says("PAINT of a byte. NONE: none, there is none.");
    StyleFixes x = desk("a b", "5:'q'>;5:'b'>'xy'");
    for (int i = 0; i < 3; i++) due(x.paint(i), -1, "paint(" + i + ") of a text told");
    x.make(1);
    due(paints(x), "..11", "paints");
    for (int i : new int[] {-1, 4, 199, 200, MIN, MAX}) due(x.paint(i), -1, "paint(" + i + ")");
    due(new StyleFixes().paint(0), -1, "paint(0) of no text");
  }

  static void promise35_theRuleByWhichItCame() {
    says("Each byte has a PAINT: the RULE by which it came (in a ROUND, or a FINDING made alone), none, if THE TEXT or the BYTE was told.");
    StyleFixes x = desk("a b c", "5:'a'>'p';5:'b'>'b''q';4:'c'>'c''!';1:'p'>'r'");
    due(x.apply(0), 5, "apply(0)");
    due(paints(x), "0....", "a finding made alone");
    due(x.make(1), 1, "make(1)");
    due(read(x), "r bq c!", "the text");
    due(paints(x), "3.11.22", "bytes that are as they were came by the rule all the same");
    x.put(2, 'b');
    due(paints(x), "3..1.22", "a byte told");
  }

  // ---- promise 36: painted ----

  static void promise36_others() {
    says("How many bytes have the PAINT of a RULE. NONE for others.");
    StyleFixes x = desk("a b", "5:'q'>;5:'b'>'xy'");
    x.make(1);
    due(x.painted(0), 0, "painted(0)");
    due(x.painted(1), 2, "painted(1)");
    for (int r : new int[] {-1, 2, 6, MIN, MAX}) due(x.painted(r), -1, "painted(" + r + ")");
    due(new StyleFixes().painted(0), -1, "painted(0) of a new object");
    x = desk("x", "5:wa>'" + "y".repeat(200) + "'");
    x.make(1);
    due(x.painted(0), 200, "painted(0) of 200");
  }

  // ---- promise 37: book ----

  static void promise37_noneSuch() {
    says("-2 if there is none such, and for others.");
    StyleFixes x = desk("3", "5:na>-na");
    due(x.book(-1, 0), 0, "book(-1, 0) of none");
    for (int i : new int[] {0, -2, 1, 24, MIN, MAX}) due(x.book(i, 0), -2, "book(" + i + ", 0) of none");
    x.make(2);
    due(x.book(-1, 0), 2, "book(-1, 0)");
    for (int i : new int[] {2, -2, 23, 24, MIN, MAX}) {
      for (int what = 0; what < 3; what++) due(x.book(i, what), -2, "book(" + i + ", " + what + ")");
    }
    for (int what : new int[] {-1, 3, MIN, MAX}) due(x.book(0, what), -2, "book(0, " + what + ")");
  }

  static void promise37_theLatest24() {
    says("THE BOOK (the latest 24 ROUNDS made): how many FINDINGS were made, their VALUE together, bytes behind it.");
    StyleFixes x = desk("x", "5:wa>wa'x'");
    for (int i = 1; i <= 26; i++) {
      x.make(1);
      int kept = Math.min(24, i);
      due(x.book(-1, 0), kept, "book(-1, 0) behind " + i);
      due(x.book(0, 2), i - kept + 2, "the eldest behind " + i);
      due(x.book(kept - 1, 2), i + 1, "the latest behind " + i);
      due(x.book(kept, 2), -2, "one more behind " + i);
    }
    for (int i = 0; i < 24; i++) {
      due(x.book(i, 0), 1, "book(" + i + ", 0)");
      due(x.book(i, 1), 5, "book(" + i + ", 1)");
      due(x.book(i, 2), i + 4, "book(" + i + ", 2)");
    }
  }

  static void promise37_24OfManyMadeTogether() {
    says("THE BOOK (the latest 24 ROUNDS made)");
    StyleFixes x = desk("x", "5:wa>wa'x'");
    x.make(30);
    due(x.book(-1, 0), 24, "book(-1, 0)");
    due(x.book(0, 2), 8, "the eldest");
    due(x.book(23, 2), 31, "the latest");
    x.make(30);
    due(x.book(0, 2), 38, "the eldest");
    due(x.book(23, 2), 61, "the latest");
    x.undo();
    due(x.book(0, 2), 8, "the eldest, taken back");
  }

  static void promise37_valueAndBytes() {
    says("how many FINDINGS were made, their VALUE together, bytes behind it");
    StyleFixes x = desk("aa b cc", "5:'aa'>'';9:'b'>'dd';1:'cc'>'b'");
    x.measure(1);
    due(x.make(2), 2, "make(2)");
    int[][] want = {{3, 250 + 900 + 50, 5}, {1, 900, 6}};
    for (int i = 0; i < 2; i++) {
      for (int what = 0; what < 3; what++) due(x.book(i, what), want[i][what], "book(" + i + ", " + what + ")");
    }
    x.apply(0);
    due(x.book(-1, 0), 2, "a finding made alone is not in the book");
  }

  // ---- promise 38: common ----

  static void promise38_noWordsAndOthers() {
    says("COMMON: the TOKEN (what 0), how many there are (1). NONE: there are no WORDS, and for others.");
    for (String text : new String[] {"", "1 1 2", "   ", "!!", "AB"}) {
      StyleFixes x = desk(text, "");
      due(x.common(0), -1, "common(0) of " + text);
      due(x.common(1), -1, "common(1) of " + text);
    }
    StyleFixes x = desk("a", "");
    due(x.common(0), 0, "common(0)");
    due(x.common(1), 1, "common(1)");
    for (int what : new int[] {-1, 2, MIN, MAX}) due(x.common(what), -1, "common(" + what + ")");
  }

  static void promise38_theFirstToken() {
    says("COMMON: of WORDS that with like bytes there are most of the first TOKEN.");
    String[] texts = {"a b", "a b b", "b a a b", "1 1 1 a", "a b c b c", "ab a ab a", "!! z", "aa a a", "c b a a b c b"};
    int[] token = {0, 2, 0, 6, 2, 0, 3, 2, 2};
    int[] count = {1, 2, 2, 1, 2, 2, 1, 2, 3};
    for (int i = 0; i < texts.length; i++) {
      StyleFixes x = desk(texts[i], "");
      due(x.common(0), token[i], "common(0) of " + texts[i]);
      due(x.common(1), count[i], "common(1) of " + texts[i]);
    }
    StyleFixes x = desk("a!".repeat(100), "");
    due(x.common(1), 100, "common(1) of a hundred");
  }

  // ---- promise 39: paired ----

  static void promise39_noneForOthers() {
    says("With which byte a BRACKET is PAIRED. NONE: none, it is none, and for others.");
    StyleFixes x = desk("(a)", "");
    due(x.paired(0), 2, "paired(0)");
    due(x.paired(1), -1, "paired(1), no bracket");
    due(x.paired(2), 0, "paired(2)");
    for (int i : new int[] {-1, 3, 199, 200, MIN, MAX}) due(x.paired(i), -1, "paired(" + i + ")");
    due(new StyleFixes().paired(0), -1, "paired(0) of no text");
    text(x, "<a>");
    due(x.paired(0), -1, "< is no bracket");
    due(x.paired(2), -1, "> is no bracket");
  }

  private static void pairs(String text, int... want) {
    StyleFixes x = desk(text, "");
    for (int i = 0; i < want.length; i++) due(x.paired(i), want[i], "paired(" + i + ") of " + text);
  }

  static void promise39_withTheLatestThatOpensOfItsSort() {
    says("one that closes is PAIRED with the latest one that opens, isn't PAIRED yet, and is of its sort");
    pairs("(())", 3, 2, 1, 0);
    pairs("([{}])", 5, 4, 3, 2, 1, 0);
    pairs("(()", -1, 2, 1);
    pairs("())", 1, 0, -1);
    pairs(")(", -1, -1);
    pairs("(]", -1, -1);
    pairs("{)}", 2, -1, 0);
    pairs("()[]{}", 1, 0, 3, 2, 5, 4);
  }

  static void promise39_noOtherOpenedBehindThat() {
    says("if no other one that isn't PAIRED was opened behind that; else it has none");
    pairs("([)]", -1, 3, -1, 1);
    pairs("([)])", 4, 3, -1, 1, 0);
    pairs("({[)}]", -1, -1, 5, -1, -1, 2);
    pairs("([]){)", 3, 2, 1, 0, -1, -1);
  }

  static void promise39_200Brackets() {
    says("BRACKETS: ( and ), [ and ], { and }, from the left on");
    StyleFixes x = desk("[".repeat(100) + "]".repeat(100), "");
    due(x.paired(0), 199, "paired(0)");
    due(x.paired(99), 100, "paired(99)");
    due(x.paired(199), 0, "paired(199)");
    x = desk("{".repeat(200), "");
    due(x.paired(199), -1, "paired(199)");
  }

  // ---- promise 40: line ----

  static void promise40_thereIsNone() {
    says("NONE: there is none, and for others.");
    StyleFixes x = desk("ab\n", "");
    for (int i : new int[] {-1, 3, 199, 200, MIN, MAX}) {
      due(x.line(i, 0), -1, "line(" + i + ", 0)");
      due(x.line(i, 1), -1, "line(" + i + ", 1)");
    }
    for (int what : new int[] {-1, 2, MIN, MAX}) due(x.line(0, what), -1, "line(0, " + what + ")");
    due(new StyleFixes().line(0, 0), -1, "line(0, 0) of no text");
  }

  static void promise40_oneOf10InTheOneThatItEnds() {
    says("In which LINE a byte is (0 ..; one of 10 in the one that it ends; what 0), how many bytes of it are ahead (1).");
    StyleFixes x = desk("\nab\n\nc", "");
    int[] line = {0, 1, 1, 1, 2, 3};
    int[] ahead = {0, 0, 1, 2, 0, 0};
    for (int i = 0; i < line.length; i++) {
      due(x.line(i, 0), line[i], "line(" + i + ", 0)");
      due(x.line(i, 1), ahead[i], "line(" + i + ", 1)");
    }
    x = desk("\n".repeat(200), "");
    due(x.line(199, 0), 199, "line(199, 0)");
    due(x.line(199, 1), 0, "line(199, 1)");
    x = desk("x".repeat(200), "");
    due(x.line(199, 0), 0, "line(199, 0)");
    due(x.line(199, 1), 199, "line(199, 1)");
  }

  // ---- promise 41: circling ----

  static void promise41_thoseThatGoRoundAlone() {
    says("RULES made in those ROUNDS of the COURSE that go round (bits).");
    StyleFixes x = desk("2a", "1:na>-na;1:'0''a'>'0b';1:'0''b'>'0a'");
    due(x.circling(), 6, "circling()");
    due(x.used(), 7, "used()");
    text(x, "0b");
    due(x.circling(), 6, "circling(), round from the beginning");
    due(x.used(), 6, "used()");
  }

  static void promise41_noneGoRound() {
    says("RULES made in those ROUNDS of the COURSE that go round (bits).");
    due(new StyleFixes().circling(), 0, "circling() of a new object");
    due(desk("3", "1:na>-na").circling(), 0, "circling(), still");
    due(desk("3", "1:na>+na").circling(), 0, "circling(), 30 rounds");
    due(desk("xxx", "1:wa>wawa").circling(), 0, "circling(), stopped");
    due(desk("a", "1:'q'>'r';1:'a'>'b';1:'b'>'a'").circling(), 6, "circling(), rules 1 and 2");
  }

  // ---- promise 42: course ----

  static void promise42_others() {
    says("5 FINDINGS made in all. NONE for others.");
    StyleFixes x = desk("3", "1:na>-na");
    for (int what : new int[] {-1, 6, MIN, MAX}) due(x.course(what), -1, "course(" + what + ")");
  }

  static void promise42_still() {
    says("it is STILL (0)");
    due(course(new StyleFixes()), "0 0 -1 -1 0 0", "course of a new object");
    due(course(desk("abc", "")), "0 0 -1 -1 3 0", "course without rules");
    due(course(desk("10 10", "1:na>-na")), "0 10 -1 -1 3 20", "course of ten rounds");
    StyleFixes x = desk("a", "1:wa>");
    x.most(0);
    due(course(x), "0 0 -1 -1 1 0", "course, most 0");
  }

  static void promise42_still30RoundsOn() {
    says("till, the first that holds");
    due(course(desk("30", "1:na>-na")), "0 30 -1 -1 1 30", "still behind 30 rounds");
    due(course(desk("31", "1:na>-na")), "3 30 -1 -1 1 30", "not yet still behind 30 rounds");
  }

  static void promise42_goesRound() {
    says("THE TEXT with its SILENCED spans is as it was ahead of one of these (1: it GOES ROUND)");
    due(course(desk("a", "1:'a'>'b';1:'b'>'a'")), "1 2 0 2 1 2", "round from the beginning");
    due(course(desk("5a", "1:na>-na;1:'0''a'>'0b';1:'0''b'>'0a'")), "1 7 5 2 2 7", "round behind five");
    due(course(desk("x,", "5:'x'>'';5:','>'x,'")), "1 1 0 1 2 2", "round by one");
  }

  static void promise42_goesRound30RoundsOn() {
    says("till, the first that holds");
    String rules = "1:na>-na;1:'0''a'>'0b';1:'0''b'>'0a'";
    due(course(desk("28a", rules)), "1 30 28 2 2 30", "round behind 30 rounds");
    due(course(desk("29a", rules)), "3 30 -1 -1 2 30", "not yet round behind 30 rounds");
  }

  static void promise42_goesRoundWithItsSpans() {
    says("THE TEXT with its SILENCED spans is as it was ahead of one of these");
    // ahead one x! less, behind one more: the text is the same, what is silenced between goes ahead
    StyleFixes x = desk("(x!x!x!)", "5:'(''x''!'>'(';5:'!'')'>'!x!)'");
    due(x.course(0), 1, "without spans");
    x.silence(4, 5);
    due(x.digest(1), x.digest(0), "the text is as it was");
    due(spans(x), "4-5", "silenced spans");
    due(x.course(1) > 1, true, "its span is not");
    x = desk("a a", "1:'a'>'b';1:'b'>'a'");
    x.silence(0, 1);
    due(course(x), "1 2 0 2 3 2", "its span is too");
    x.silence(0, 1);
    x.silence(1, 2);
    due(course(x), "1 2 0 2 3 2", "its three spans are too");
  }

  static void promise42_goesRoundWithEightSpans() {
    says("THE TEXT with its SILENCED spans is as it was ahead of one of these");
    StyleFixes x = desk("a,,,,,,,,", "1:'a'>'bb';1:'bb'>'a'");
    for (int i = 1; i <= 8; i++) x.silence(i, i + 1);
    due(course(x), "1 2 0 2 9 2", "course");
    due(x.cure(), 1, "cure()");
  }

  static void promise42_stopped() {
    says("STOPPED (2), there were 30 (3)");
    due(course(desk("x".repeat(101), "1:wa>wawa")), "2 0 -1 -1 101 0", "stopped at once");
    due(course(desk("x".repeat(50), "1:wa>wawa")), "2 2 -1 -1 200 2", "stopped at 200");
    due(course(desk("x".repeat(170), "1:wa>wa'x'")), "2 30 -1 -1 200 30", "stopped behind 30 rounds");
    due(course(desk("x".repeat(169), "1:wa>wa'x'")), "3 30 -1 -1 199 30", "not yet stopped behind 30 rounds");
  }

  static void promise42_changesNothing() {
    says("All that follows changes nothing but what is told.");
    StyleFixes x = desk("a b 7", "5:'a'>'c';4:wa_wb>wb;3:na>+na");
    String before = all(x);
    course(x);
    x.circling();
    x.later(30, 0);
    x.used();
    x.cure();
    x.mean();
    x.share();
    due(all(x), before, "all");
  }

  static void promise42_aCourseAnewAfterEachChange() {
    says("COURSE: ROUNDS from now on");
    StyleFixes x = desk("9 9", "1:na>-na");
    due(course(x), "0 9 -1 -1 3 18", "course of nine");
    x.make(4);
    due(course(x), "0 5 -1 -1 3 10", "behind four");
    x.put(0, '1');
    due(course(x), "0 5 -1 -1 3 6", "a byte told");
    x.silence(2, 3);
    due(course(x), "0 1 -1 -1 3 1", "one silenced");
    x.on(0, false);
    due(course(x), "0 0 -1 -1 3 0", "off");
    x.undo();
    due(course(x), "0 1 -1 -1 3 1", "taken back");
    x.cure();
    due(course(x), "0 1 -1 -1 3 1", "behind cure()");
    x.back();
    due(course(x), "0 0 -1 -1 0 0", "behind back()");
  }

  // ---- promise 43: later ----

  static void promise43_nIs0To30() {
    says("Byte i of THE TEXT behind n (0 .. 30) ROUNDS of the COURSE (no more than there are).");
    StyleFixes x = desk("0", "1:na>+na");
    due(later(x, 0), "0", "later(0, ..)");
    due(later(x, 1), "1", "later(1, ..)");
    due(later(x, 29), "29", "later(29, ..)");
    due(later(x, 30), "30", "later(30, ..)");
    for (int n : new int[] {-1, 31, 32, MIN, MAX}) due(x.later(n, 0), -1, "later(" + n + ", 0)");
  }

  static void promise43_noMoreThanThereAre() {
    says("(no more than there are)");
    StyleFixes x = desk("2", "1:na>-na");
    due(later(x, 2), "0", "later(2, ..)");
    due(later(x, 3), "0", "later(3, ..)");
    due(later(x, 30), "0", "later(30, ..)");
    due(x.later(31, 0), -1, "later(31, 0)");
  }

  static void promise43_thereIsNone() {
    says("NONE: there is none, and for others.");
    StyleFixes x = desk("ab 1", "1:'ab'>'c'");
    due(later(x, 0), "ab 1", "later(0, ..)");
    due(later(x, 1), "c 1", "later(1, ..)");
    for (int i : new int[] {-1, 3, 199, 200, MIN, MAX}) due(x.later(1, i), -1, "later(1, " + i + ")");
    due(new StyleFixes().later(0, 0), -1, "later(0, 0) of no text");
    x = desk("x".repeat(199), "1:wa>wa'y'");
    due(x.later(0, 199), -1, "later(0, 199)");
    due(x.later(1, 199), 'y', "later(1, 199)");
    due(x.later(1, 200), -1, "later(1, 200)");
  }

  // ---- promise 44: digest ----

  static void promise44_nIs0To30() {
    says("THE TEXT behind n (0 .. 30) ROUNDS (no more than there are), by 31 each time: h is 31 times h and the byte (an int, going round), from 0. 0 for others.");
    StyleFixes x = desk("0", "1:na>+na");
    for (int n = 0; n <= 30; n++) due(x.digest(n), ("" + n).hashCode(), "digest(" + n + ")");
    for (int n : new int[] {-1, 31, 32, MIN, MAX}) due(x.digest(n), 0, "digest(" + n + ")");
    x = desk("2", "1:na>-na");
    due(x.digest(3), "0".hashCode(), "digest(3), no more than there are");
    due(x.digest(30), "0".hashCode(), "digest(30), no more than there are");
    due(x.digest(31), 0, "digest(31)");
  }

  static void promise44_anIntGoingRound() {
    says("(an int, going round), from 0");
    due(new StyleFixes().digest(0), 0, "digest(0) of no text");
    due(desk("\n", "").digest(0), 10, "digest(0) of one byte");
    due(desk("ab", "").digest(0), 97 * 31 + 98, "digest(0) of two bytes");
    for (String text : new String[] {"~".repeat(200), "zzzzzz", "abcdefgh", "the quick brown fox"}) due(desk(text, "").digest(0), text.hashCode(), "digest(0) of " + text);
  }

  // ---- promise 45: used ----

  static void promise45_madeInTheCourse() {
    says("RULES that are made in the COURSE (bits).");
    due(new StyleFixes().used(), 0, "used() of a new object");
    StyleFixes x = desk("a", "1:'q'>'r';1:'a'>'b';1:'b'>'c';9:'c'>'d';1:'c'>'e';1:'d'>'f'");
    due(x.used(), 2 + 4 + 8 + 32, "used(), one that fits but is never made is not");
    x.on(2, false);
    due(x.used(), 2, "used()");
    x.on(1, false);
    due(x.used(), 0, "used() of no round");
    due(desk("x".repeat(150), "1:wa>wawa").used(), 0, "used(), stopped at once");
  }

  // ---- promise 46: cure ----

  static void promise46_noneIsToRest() {
    says("so that the COURSE ends STILL");
    due(new StyleFixes().cure(), 0, "cure() of a new object");
    due(desk("30", "1:na>-na").cure(), 0, "cure(), still behind 30 rounds");
    due(desk("31", "1:na>-na").cure(), 1, "cure(), not still behind 30 rounds");
    StyleFixes x = desk("0", "1:na>+na");
    x.on(0, false);
    due(x.cure(), 0, "cure(), off already");
  }

  static void promise46_eachOtherEnding() {
    says("CURE: the RULES that are ON that must be OFF so that the COURSE ends STILL");
    due(desk("a", "1:'a'>'b';1:'b'>'a'").cure(), 1, "cure() of what goes round");
    due(desk("x".repeat(101), "1:'q'>;1:wa>wawa").cure(), 2, "cure() of what is stopped");
    due(desk("0", "1:'q'>;1:'q'>;1:na>+na").cure(), 4, "cure() of 30 rounds");
  }

  static void promise46_allOfThem() {
    says("CURE (bits). NONE: none does.");
    due(desk("0", "1:na>+na;1:na>+na;1:na>+na;1:na>+na;1:na>+na;1:na>+na").cure(), 63, "cure() of six");
    StyleFixes x = desk("0", "1:na>+na;1:na>+na;1:na>+na;1:na>+na;1:na>+na;1:na>+na");
    x.on(0, false);
    x.on(3, false);
    due(x.cure(), 54, "cure(), those off are not in it");
  }

  static void promise46_theFewest() {
    says("the fewest, of like ones the least bits (RULE 0 the lowest)");
    // either 0 and 1, or 2 alone
    due(desk("a", "2:'a'>'b,';1:'a'>'c,';1:wa','>'a'").cure(), 4, "cure(), one, though two have the lesser bits");
    due(desk("a", "1:'a'>'b';1:'b'>'c';1:'c'>'a'").cure(), 1, "cure(), one of three");
    due(desk("a 0 0!", "1:'a'>'b';1:'b'>'a';1:na>+na;1:'!'>'!!'").cure(), 1 + 4 + 8, "cure(), three of four");
  }

  static void promise46_changesNothing() {
    says("All that follows changes nothing but what is told.");
    StyleFixes x = desk("0 a", "1:na>+na;1:'a'>'b'");
    due(x.course(0), 3, "course(0)");
    String before = all(x);
    due(x.cure(), 1, "cure()");
    due(course(x), "3 30 -1 -1 4 31", "the course is as it was");
    due(x.cure(), 1, "cure() again");
    due(all(x), before, "all");
    x.on(0, false);
    due(x.cure(), 0, "cure() anew");
  }

  // ---- promise 47: mean ----

  static void promise47_without() {
    says("Mean VALUE of FINDINGS that aren't SILENT, as floats: its bits. 0 without.");
    due(new StyleFixes().mean(), 0, "mean() of a new object");
    StyleFixes x = desk("a", "5:wa>");
    due(x.mean(), Float.floatToIntBits(5f), "mean() of one");
    x.silence(0, 1);
    due(x.mean(), 0, "mean(), silent");
  }

  static void promise47_asFloats() {
    says("Mean VALUE of FINDINGS that aren't SILENT, as floats: its bits.");
    int[][] weights = {{1}, {2}, {3}, {99}, {1, 2}, {1, 1, 2}, {99, 98, 97}, {1, 99, 50, 7, 3, 2}, {64, 64}, {5, 2, 3}};
    for (int[] ws : weights) {
      StringBuilder rules = new StringBuilder();
      float sum = 0f;
      for (int w : ws) { rules.append(sum == 0f ? "" : ";").append(w).append(":wa>"); sum += (float) w; }
      due(desk("a", rules.toString()).mean(), Float.floatToIntBits(sum / (float) ws.length), "mean() of " + rules);
    }
    StyleFixes x = desk("!".repeat(200), SIX.replace("1:", "99:"));
    x.measure(1);
    due(x.mean(), Float.floatToIntBits(9900f), "mean() of 1200");
  }

  static void promise47_belowOne() {
    says("Mean VALUE of FINDINGS that aren't SILENT, as floats: its bits.");
    StyleFixes x = desk("x".repeat(101) + " " + "y".repeat(98), "1:wa>");
    x.measure(1);
    due(x.finding(0, 4), 0, "finding(0, 4)");
    due(x.finding(1, 4), 1, "finding(1, 4)");
    due(x.mean(), Float.floatToIntBits(0.5f), "mean() of 0 and 1");
    x = desk("x".repeat(110) + " " + "y".repeat(70), "1:wa>;1:wa>'a';1:'" + "x".repeat(110) + "'>");
    x.measure(1);
    due(x.mean(), Float.floatToIntBits(2f / 5f), "mean() of 0 0 0 1 1");
    x = desk("x".repeat(150), "1:wa>");
    x.measure(1);
    due(x.mean(), 0, "mean() of 0");
  }

  static void promise47_yieldedOnesToo() {
    says("Mean VALUE of FINDINGS that aren't SILENT");
    StyleFixes x = desk("a", "5:wa>;2:wa>'z'");
    x.yields(0, 1);
    due(x.mean(), Float.floatToIntBits(3.5f), "mean()");
    x.most(0);
    due(x.mean(), Float.floatToIntBits(3.5f), "mean(), though the set is none");
  }

  // ---- promise 48: share ----

  static void promise48_withoutBytes() {
    says("Of all bytes of THE TEXT those in SPANS of THE SET, as doubles, divided: its bits. 0 without bytes.");
    due(new StyleFixes().share(), 0L, "share() of no text");
    StyleFixes x = desk("a", "5:wa>");
    due(x.share(), Double.doubleToLongBits(1d), "share() of one byte");
    x.most(0);
    due(x.share(), 0L, "share() of no set");
    due(desk("abc", "").share(), 0L, "share() without rules");
  }

  static void promise48_asDoublesDivided() {
    says("as doubles, divided: its bits");
    for (int length : new int[] {2, 3, 7, 10, 64, 97, 128, 199, 200}) {
      for (int part : new int[] {1, 2, 3, 5, 63, 64, 100, 198}) {
        if (part >= length) continue;
        StyleFixes x = desk("x".repeat(part) + "1".repeat(length - part), "5:wa>");
        due(x.share(), Double.doubleToLongBits((double) part / (double) length), "share() of " + part + " by " + length);
      }
    }
    StyleFixes x = desk("a b", "5:wa_wb>wb;1:wa>");
    due(x.share(), Double.doubleToLongBits(1d), "share() of all");
    x.silence(1, 2);
    due(x.share(), Double.doubleToLongBits(2d / 3d), "share() of two thirds");
  }

  // ---- promise 49: image ----

  static void promise49_bytesOfTheText() {
    says("THE IMAGE is as all is now: bytes of THE TEXT.");
    StyleFixes x = new StyleFixes();
    due(x.image(), 0, "image() of no text");
    text(x, "x".repeat(200));
    due(x.image(), 200, "image() of 200");
    due(x.steps(), 1, "it is no step");
  }

  static void promise49_theLatestAlone() {
    says("THE IMAGE is as all is now");
    StyleFixes x = desk("a", "");
    x.image();
    text(x, "bc");
    x.image();
    text(x, "def");
    due(x.back(), 2, "back()");
    due(read(x), "bc", "the text");
    x.undo();
    due(read(x), "a", "the text ahead");
    due(x.back(), 2, "undo() leaves the image alone");
    due(read(x), "bc", "the text");
  }

  static void promise49_changesNothing() {
    says("All that follows changes nothing but what is told.");
    StyleFixes x = desk("a b", "5:'a'>'c'");
    x.make(1);
    String before = all(x);
    x.image();
    due(all(x), before, "all");
  }

  // ---- promise 50: back ----

  private static StyleFixes rich() {
    StyleFixes x = desk("a b 1", "5:'a'>'cc';4:wa_wb>wb;3:na>+na");
    x.silence(1, 2);
    x.yields(0, 2);
    x.yields(0, 1);
    x.measure(1);
    x.most(7);
    x.make(2);
    x.on(2, false);
    return x;
  }

  static void promise50_allIsSoAgain() {
    says("AN IMAGE: all as it is (but the tape and the latest FAULT). BACK: all is so again.");
    StyleFixes x = rich();
    x.image();
    String before = all(x);
    text(x, "zz");
    rules(x, "9:wa>'q'");
    x.measure(0);
    x.make(3);
    due(x.back(), 6, "back()");
    due(all(x), before, "all behind back()");
    x.undo();
    x.undo();
    x.insist();
    due(x.back(), 6, "back() again");
    due(all(x), before, "all behind back() again");
  }

  static void promise50_itStays() {
    says("BACK to THE IMAGE (it stays): bytes of THE TEXT.");
    StyleFixes x = desk("abc", "5:wa>");
    x.image();
    for (int i = 0; i < 3; i++) {
      x.make(1);
      due(x.is(0), 0, "is(0)");
      due(x.back(), 3, "back() " + i);
      due(read(x), "abc", "the text");
      x.put(0, 'z');
    }
    due(x.back(), 3, "back()");
    due(read(x), "abc", "a byte told behind back() is not in the image");
  }

  static void promise50_theTapeAndTheFaultStay() {
    says("(but the tape and the latest FAULT)");
    StyleFixes x = desk("abc", "5:wa>");
    tape(x, "one");
    x.image();
    rules(x, "5:wa>wb");
    tape(x, "three");
    x.back();
    due(x.is(10), 5, "is(10)");
    due(x.fault(0), 5, "fault(0)");
    due(x.fault(1), 5, "fault(1)");
    x.text();
    due(read(x), "three", "the tape");
  }

  static void promise50_itsStepsCanBeTakenBack() {
    says("AN IMAGE: all as it is (but the tape and the latest FAULT). BACK: all is so again.");
    StyleFixes x = new StyleFixes();
    for (int i = 1; i <= 27; i++) x.most(i % 21);
    x.image();
    for (int i = 0; i < 9; i++) x.measure(i % 2);
    for (int i = 0; i < 14; i++) x.undo();
    x.back();
    due(x.steps(), 20, "steps()");
    for (int i = 26; i >= 7; i--) {
      due(x.undo(), i - 7, "undo()");
      due(x.is(8), i % 21, "is(8)");
      due(x.is(7), 0, "is(7)");
    }
    due(x.undo(), -1, "undo() of none");
  }

  static void promise50_itsStepsBringTheirYieldsAndBook() {
    says("AN IMAGE: all as it is (but the tape and the latest FAULT). BACK: all is so again.");
    StyleFixes x = rich();
    x.insist();
    x.image();
    x.yields(2, 1);
    x.yields(2, 0);
    x.back();
    due(x.is(12), 0, "is(12)");
    x.undo();
    due(x.yielding(0), 2, "yielding(0)");
    due(x.yielding(1), 1, "yielding(1)");
    x.undo();
    due(x.is(3), 7, "is(3)");
    x.undo();
    due(read(x), "a b 1", "the text");
    due(x.book(-1, 0), 0, "book(-1, 0)");
  }

  static void promise50_isNoStep() {
    says("BACK to THE IMAGE (it stays)");
    StyleFixes x = desk("abc", "5:wa>");
    x.image();
    x.back();
    due(x.steps(), 2, "steps()");
    due(x.undo(), 1, "undo()");
    due(x.is(2), 0, "is(2)");
  }

  // ---- promise 51: steps ----

  static void promise51_twentyAtMost() {
    says("STEPS that can be taken back.");
    StyleFixes x = new StyleFixes();
    due(x.steps(), 0, "steps() of a new object");
    for (int i = 1; i <= 45; i++) {
      x.measure(i % 2);
      due(x.steps(), Math.min(20, i), "steps() behind " + i);
    }
    x.undo();
    due(x.steps(), 19, "steps() behind undo()");
    for (int i = 0; i < 25; i++) x.undo();
    due(x.steps(), 0, "steps() behind all");
  }

  static void promise51_whatIsRefusedIsNone() {
    says("STEPS that can be taken back.");
    StyleFixes x = desk("ab c", "5:wa>");
    x.silence(0, 1);
    text(x, "\t");
    rules(x, "?");
    x.on(0, true);
    x.on(1, true);
    x.silence(4, 5);
    x.hear(1);
    x.measure(2);
    x.most(21);
    x.put(0, 'x');
    x.put(1, 9);
    x.yields(0, 0);
    x.apply(0);
    x.apply(2);
    x.make(0);
    due(x.steps(), 3, "steps()");
  }

  static void promise51_whatIsAskedIsNone() {
    says("All that follows changes nothing but what is told.");
    StyleFixes x = desk("ab c", "5:wa>");
    all(x);
    x.mean();
    x.share();
    x.image();
    x.feed(0, 0, 0, 0, 0);
    x.end(1);
    due(x.steps(), 2, "steps()");
  }

  static void promise51_eachKindIsOne() {
    says("STEPS that are taken back: TEXTS, RULES told, ON, OFF, SILENCED, HEARD again, MEASURE, MOST told");
    StyleFixes x = desk("a b", "5:'a'>'c';4:'b'>'d'");
    due(x.steps(), 2, "text and rules");
    x.on(0, false);
    due(x.steps(), 3, "off");
    x.on(0, true);
    due(x.steps(), 4, "on");
    x.silence(0, 1);
    due(x.steps(), 5, "silenced");
    x.hear(0);
    due(x.steps(), 6, "heard again");
    x.measure(1);
    due(x.steps(), 7, "measure");
    x.most(9);
    due(x.steps(), 8, "most");
    x.yields(0, 1);
    due(x.steps(), 9, "yields told");
    x.insist();
    due(x.steps(), 10, "yields wiped");
    x.apply(1);
    due(x.steps(), 11, "a finding made alone");
    x.make(30);
    due(x.steps(), 12, "rounds made");
    x.put(1, ',');
    due(x.steps(), 13, "a byte told");
  }
}
