import java.util.ArrayList;
import java.util.Arrays;
import java.util.Collections;
import java.util.HashMap;
import java.util.LinkedHashMap;
import java.util.List;
import java.util.Map;
import java.util.Random;

/**
 * Runs of calls from fixed seeds, each call answered by StyleFixes and by a model that is written
 * straight from the document, with no state kept but what is told: every answer has to be the same.
 */
public final class StyleFixesAgainstModel {
  private static final int RUNS = 2000;
  private static final int CALLS = 220;

  // ---- the model ----

  record Element(char sort, char name, String quote) { }
  record Part(char kind, char sort, char name, String quote) { }
  record Rule(int weight, List<Element> elements, List<Part> parts) { }
  record Token(int sort, int from, int to, String bytes) { }
  record Finding(int rule, int from, int to, String fresh, int value, boolean silent) { }
  record Choice(long value, List<Integer> list) { }

  static final class Fault extends RuntimeException {
    final int kind;
    final int place;
    private static final long serialVersionUID = 1L;
    Fault(int kind, int place) { super("fault", null, false, false); this.kind = kind; this.place = place; }
  }

  static final java.util.regex.Pattern TOKEN = java.util.regex.Pattern.compile("([a-z]+)|([0-9]+)|([ \n]+)|(.)");

  static final class World {
    String text = "";
    List<Integer> paints = new ArrayList<>();
    List<int[]> silenced = new ArrayList<>();
    List<Rule> rules = new ArrayList<>();
    List<Boolean> on = new ArrayList<>();
    int measure = 0;
    int most = 20;
    List<int[]> yields = new ArrayList<>();
    List<int[]> book = new ArrayList<>();
    int rounds = 0;

    World copy() {
      World w = new World();
      w.text = text;
      w.paints = new ArrayList<>(paints);
      for (int[] s : silenced) w.silenced.add(s.clone());
      w.rules = rules;
      w.on = new ArrayList<>(on);
      w.measure = measure;
      w.most = most;
      w.yields = new ArrayList<>(yields);
      w.book = new ArrayList<>(book);
      w.rounds = rounds;
      return w;
    }

    String key() {
      StringBuilder b = new StringBuilder(text).append('\0');
      for (int[] s : silenced) b.append(s[0]).append('-').append(s[1]).append(' ');
      return b.toString();
    }

    private String tokensOf = null;
    private List<Token> tokens = null;

    List<Token> tokens() {
      if (!text.equals(tokensOf)) { tokensOf = text; tokens = split(text); }
      return tokens;
    }

    private static List<Token> split(String text) {
      List<Token> list = new ArrayList<>();
      java.util.regex.Matcher m = TOKEN.matcher(text);
      while (m.find()) {
        int sort = m.group(1) != null ? 0 : m.group(2) != null ? 1 : m.group(3) != null ? 2 : 3;
        list.add(new Token(sort, m.start(), m.end(), m.group()));
      }
      return list;
    }

    /** What the names stand for, null if the RULE doesn't FIT. */
    Map<String, String> fit(int rule, int token) {
      List<Token> tokens = tokens();
      Rule r = rules.get(rule);
      if (token < 0 || token + r.elements().size() > tokens.size()) return null;
      Map<String, String> names = new HashMap<>();
      for (int e = 0; e < r.elements().size(); e++) {
        Element el = r.elements().get(e);
        Token t = tokens.get(token + e);
        if (el.sort() == '\'') {
          if (!el.quote().equals(t.bytes())) return null;
        } else {
          if ("wn_s".indexOf(el.sort()) != t.sort()) return null;
          if (el.sort() != '_') {
            String name = "" + el.sort() + el.name();
            if (names.containsKey(name) && !names.get(name).equals(t.bytes())) return null;
            names.put(name, t.bytes());
          }
        }
      }
      return names;
    }

    String fresh(int rule, Map<String, String> names) {
      StringBuilder b = new StringBuilder();
      for (Part p : rules.get(rule).parts()) {
        if (p.kind() == '\'') { b.append(p.quote()); continue; }
        String bytes = names.get("" + p.sort() + p.name());
        switch (p.kind()) {
          case '=' -> b.append(bytes);
          case '~' -> b.append(new StringBuilder(bytes).reverse());
          case '+' -> b.append(bytes.length() > 9 ? bytes : Long.toString(Long.parseLong(bytes) + 1));
          default -> b.append(bytes.length() > 9 ? bytes : Long.toString(Math.max(0, Long.parseLong(bytes) - 1)));
        }
      }
      return b.toString();
    }

    boolean hides(int from, int to) {
      for (int[] s : silenced) for (int i = from; i < to; i++) if (i >= s[0] && i < s[1]) return true;
      return false;
    }

    List<Finding> findings() {
      List<Finding> list = new ArrayList<>();
      List<Token> tokens = tokens();
      for (int r = 0; r < rules.size(); r++) {
        if (!on.get(r)) continue;
        for (int t = 0; t < tokens.size(); t++) {
          Map<String, String> names = fit(r, t);
          if (names == null) continue;
          int from = tokens.get(t).from();
          int to = tokens.get(t + rules.get(r).elements().size() - 1).to();
          String fresh = fresh(r, names);
          if (fresh.equals(text.substring(from, to))) continue;
          int weight = rules.get(r).weight();
          int value = measure == 0 ? weight : (int) ((float) weight * 100f / (float) (to - from));
          list.add(new Finding(r, from, to, fresh, value, hides(from, to)));
        }
      }
      list.sort((a, b) -> a.from() != b.from() ? a.from() - b.from() : a.to() != b.to() ? a.to() - b.to() : a.rule() - b.rule());
      return list;
    }

    static boolean share(Finding a, Finding b) { return a.from() < b.to() && b.from() < a.to(); }

    boolean yielded(List<Finding> fs, int i) {
      for (Finding g : fs) {
        if (g.silent() || !share(g, fs.get(i))) continue;
        for (int[] y : yields) if (y[0] == g.rule() && y[1] == fs.get(i).rule()) return true;
      }
      return false;
    }

    List<Integer> set(List<Finding> fs) {
      List<Integer> may = new ArrayList<>();
      for (int i = 0; i < fs.size(); i++) if (!fs.get(i).silent() && !yielded(fs, i)) may.add(i);
      return best(fs, may, 0, most, new HashMap<>()).list();
    }

    private Choice best(List<Finding> fs, List<Integer> may, int k, int left, Map<Integer, Choice> known) {
      if (k == may.size() || left == 0) return new Choice(0, List.of());
      Choice had = known.get(k * 32 + left);
      if (had != null) return had;
      Choice skip = best(fs, may, k + 1, left, known);
      int next = k + 1;
      while (next < may.size() && share(fs.get(may.get(k)), fs.get(may.get(next)))) next++;
      Choice rest = best(fs, may, next, left - 1, known);
      List<Integer> list = new ArrayList<>();
      list.add(may.get(k));
      list.addAll(rest.list());
      Choice take = new Choice(rest.value() + fs.get(may.get(k)).value(), list);
      Choice better = isBetter(take, skip) ? take : skip;
      known.put(k * 32 + left, better);
      return better;
    }

    private static boolean isBetter(Choice a, Choice b) {
      if (a.value() != b.value()) return a.value() > b.value();
      if (a.list().size() != b.list().size()) return a.list().size() < b.list().size();
      for (int i = 0; i < a.list().size(); i++) {
        int c = a.list().get(i).compareTo(b.list().get(i));
        if (c != 0) return c < 0;
      }
      return false;
    }

    int valueOf(List<Finding> fs, List<Integer> list) {
      int sum = 0;
      for (int i : list) sum += fs.get(i).value();
      return sum;
    }

    /** Byte by byte, so that what goes along with bytes goes along by itself; null if it grows too long. */
    World made(List<Finding> fs, List<Integer> list) {
      World w = copy();
      StringBuilder b = new StringBuilder();
      List<Integer> paint = new ArrayList<>();
      Map<Integer, Integer> moved = new HashMap<>();
      int at = 0;
      while (at < text.length()) {
        Finding here = null;
        for (int i : list) if (fs.get(i).from() == at) here = fs.get(i);
        if (here == null) {
          moved.put(at, b.length());
          paint.add(paints.get(at));
          b.append(text.charAt(at));
          at++;
        } else {
          b.append(here.fresh());
          for (int k = 0; k < here.fresh().length(); k++) paint.add(here.rule());
          at = here.to();
        }
      }
      if (b.length() > 200) return null;
      w.text = b.toString();
      w.paints = paint;
      for (int[] s : w.silenced) {
        int from = moved.get(s[0]);
        int to = moved.get(s[1] - 1) + 1;
        s[0] = from;
        s[1] = to;
      }
      return w;
    }

    World round() {
      List<Finding> fs = findings();
      List<Integer> list = set(fs);
      if (list.isEmpty()) return null;
      World w = made(fs, list);
      if (w == null) return null;
      w.book.add(new int[] {list.size(), valueOf(fs, list), w.text.length()});
      if (w.book.size() > 24) w.book.remove(0);
      w.rounds++;
      return w;
    }
  }

  static final class Course {
    final List<World> worlds = new ArrayList<>();
    final List<Integer> bits = new ArrayList<>();
    int ending;
    int first = -1;
    int findings = 0;

    Course(World start) {
      World w = start.copy();
      Map<String, Integer> seen = new LinkedHashMap<>();
      while (true) {
        worlds.add(w);
        if (seen.containsKey(w.key())) { ending = 1; first = seen.get(w.key()); return; }
        seen.put(w.key(), worlds.size() - 1);
        List<Finding> fs = w.findings();
        List<Integer> list = w.set(fs);
        if (list.isEmpty()) { ending = 0; return; }
        World next = w.made(fs, list);
        if (next == null) { ending = 2; return; }
        if (worlds.size() == 31) { ending = 3; return; }
        int b = 0;
        for (int i : list) b |= 1 << fs.get(i).rule();
        bits.add(b);
        findings += list.size();
        w = next;
      }
    }

    int bitsFrom(int from) {
      int b = 0;
      for (int i = from; i < bits.size(); i++) b |= bits.get(i);
      return b;
    }
  }

  static final class Model {
    final List<Integer> tape = new ArrayList<>();
    World w = new World();
    List<World> steps = new ArrayList<>();
    World image = new World();
    List<World> imageSteps = new ArrayList<>();
    int fault = 0;
    int place = -1;

    private void step() {
      steps.add(w);
      if (steps.size() > 20) steps.remove(0);
      w = w.copy();
    }

    int feed(int... words) {
      if (tape.size() + 20 > 300) return -1;
      for (int x : words) for (int s = 24; s >= 0; s -= 8) tape.add((x >> s) & 255);
      return tape.size();
    }

    int end(int n) {
      if (n < 0 || n > tape.size()) return -1;
      while (tape.size() > n) tape.remove(tape.size() - 1);
      return n;
    }

    private String spill() {
      StringBuilder b = new StringBuilder();
      for (int x : tape) b.append((char) x);
      tape.clear();
      return b.toString();
    }

    int text() {
      String t = spill();
      if (t.length() > 200) return -1;
      for (char c : t.toCharArray()) if (c != 10 && (c < 32 || c > 126)) return -1;
      step();
      w.text = t;
      w.silenced.clear();
      w.paints = new ArrayList<>(Collections.nCopies(t.length(), -1));
      return t.length();
    }

    int rules() {
      try {
        List<Rule> rules = parse(spill());
        fault = 0;
        place = -1;
        step();
        w.rules = rules;
        w.on = new ArrayList<>(Collections.nCopies(rules.size(), true));
        w.yields.clear();
        return rules.size();
      } catch (Fault f) {
        fault = f.kind;
        place = f.place;
        return -1;
      }
    }

    private static char look(String s, int i) { return i < s.length() ? s.charAt(i) : '\0'; }

    private static List<Rule> parse(String s) {
      List<Rule> rules = new ArrayList<>();
      if (s.isEmpty()) return rules;
      int i = 0;
      while (true) {
        int start = i;
        while (look(s, i) >= '0' && look(s, i) <= '9') i++;
        if (i == start) throw new Fault(1, i);
        java.math.BigInteger n = new java.math.BigInteger(s.substring(start, i));
        if (n.signum() == 0 || n.compareTo(java.math.BigInteger.valueOf(99)) > 0) throw new Fault(2, start);
        if (rules.size() == 6) throw new Fault(3, start);
        if (look(s, i) != ':') throw new Fault(1, i);
        i++;
        List<Element> elements = new ArrayList<>();
        while (look(s, i) != '>' || elements.isEmpty()) {
          char c = look(s, i);
          if (c == '\0' || "wns_'".indexOf(c) < 0) throw new Fault(1, i);
          if (elements.size() == 6) throw new Fault(4, i);
          if (c == '_') { elements.add(new Element('_', ' ', "")); i++; continue; }
          if (c == '\'') {
            int close = close(s, i);
            String q = s.substring(i + 1, close);
            if (!q.matches("[a-z]+|[0-9]+| +|[^a-z0-9 ]")) throw new Fault(6, i);
            elements.add(new Element('\'', ' ', q));
            i = close + 1;
            continue;
          }
          if (look(s, i + 1) < 'a' || look(s, i + 1) > 'd') throw new Fault(1, i + 1);
          elements.add(new Element(c, s.charAt(i + 1), ""));
          i += 2;
        }
        i++;
        List<Part> parts = new ArrayList<>();
        while (i < s.length() && s.charAt(i) != ';') {
          char c = look(s, i);
          if (c == '\0' || "wns+-~'".indexOf(c) < 0) throw new Fault(1, i);
          if (parts.size() == 6) throw new Fault(4, i);
          if (c == '\'') {
            int close = close(s, i);
            parts.add(new Part('\'', ' ', ' ', s.substring(i + 1, close)));
            i = close + 1;
            continue;
          }
          char kind = '=';
          if ("+-~".indexOf(c) >= 0) {
            kind = c;
            i++;
            if (look(s, i) != (c == '~' ? 'w' : 'n')) throw new Fault(1, i);
          }
          char sort = look(s, i);
          char name = look(s, i + 1);
          if (name < 'a' || name > 'd') throw new Fault(1, i + 1);
          boolean known = false;
          for (Element e : elements) known |= e.sort() == sort && e.name() == name;
          if (!known) throw new Fault(5, i);
          parts.add(new Part(kind, sort, name, ""));
          i += 2;
        }
        rules.add(new Rule(Integer.parseInt(s.substring(start, s.indexOf(':', start))), elements, parts));
        if (i == s.length()) return rules;
        i++;
      }
    }

    private static int close(String s, int open) {
      int i = open + 1;
      while (i < s.length() && s.charAt(i) != '\'') {
        if (s.charAt(i) < 32 || s.charAt(i) > 126) throw new Fault(1, i);
        i++;
      }
      if (i == s.length()) throw new Fault(1, i);
      return i;
    }

    private boolean isRule(int r) { return r >= 0 && r < w.rules.size(); }
    private boolean isByte(int i) { return i >= 0 && i < w.text.length(); }

    boolean on(int r, boolean is) {
      if (!isRule(r) || w.on.get(r) == is) return false;
      step();
      w.on.set(r, is);
      return true;
    }

    int silence(int from, int to) {
      if (from < 0 || to > w.text.length() || from >= to || w.silenced.size() == 8) return -1;
      step();
      w.silenced.add(new int[] {from, to});
      return w.silenced.size();
    }

    boolean hear(int i) {
      if (i < 0 || i >= w.silenced.size()) return false;
      step();
      w.silenced.remove(i);
      return true;
    }

    boolean measure(int m) {
      if (m != 0 && m != 1) return false;
      step();
      w.measure = m;
      return true;
    }

    boolean most(int m) {
      if (m < 0 || m > 20) return false;
      step();
      w.most = m;
      return true;
    }

    boolean put(int at, int b) {
      if (!isByte(at) || (b != 10 && (b < 32 || b > 126)) || w.hides(at, at + 1)) return false;
      step();
      w.text = w.text.substring(0, at) + (char) b + w.text.substring(at + 1);
      w.paints.set(at, -1);
      return true;
    }

    private boolean yieldsTo(int a, int b) {
      for (int[] y : w.yields) if (y[1] == a && (y[0] == b || yieldsTo(y[0], b))) return true;
      return false;
    }

    boolean yields(int r, int o) {
      if (!isRule(r) || !isRule(o) || r == o || w.yields.size() == 8 || yieldsTo(r, o)) return false;
      for (int[] y : w.yields) if (y[0] == r && y[1] == o) return false;
      step();
      w.yields.add(new int[] {r, o});
      return true;
    }

    int insist() {
      int n = w.yields.size();
      step();
      w.yields.clear();
      return n;
    }

    int apply(int i) {
      List<Finding> fs = w.findings();
      if (i < 0 || i >= fs.size() || fs.get(i).silent()) return -1;
      World made = w.made(fs, List.of(i));
      if (made == null) return -1;
      step();
      w = made;
      return w.text.length();
    }

    int make(int n) {
      if (n < 1 || n > 30) return -1;
      step();
      int made = 0;
      for (World next = w.round(); made < n && next != null; next = w.round()) { w = next; made++; }
      return made;
    }

    int undo() {
      if (steps.isEmpty()) return -1;
      w = steps.remove(steps.size() - 1);
      return steps.size();
    }

    int image() { image = w.copy(); imageSteps = new ArrayList<>(steps); return w.text.length(); }
    int back() { w = image.copy(); steps = new ArrayList<>(imageSteps); return w.text.length(); }

    int is(int what) {
      List<Finding> fs = w.findings();
      int n = 0;
      switch (what) {
        case 0: return w.text.length();
        case 1: return w.tokens().size();
        case 2: return w.rules.size();
        case 3: for (int r = 0; r < w.on.size(); r++) n += w.on.get(r) ? 1 << r : 0; return n;
        case 4: return fs.size();
        case 5: for (Finding f : fs) n += f.silent() ? 1 : 0; return n;
        case 6: return w.silenced.size();
        case 7: return w.measure;
        case 8: return w.most;
        case 9: return w.rounds;
        case 10: return tape.size();
        case 11: for (int i = 0; i < fs.size(); i++) n += w.yielded(fs, i) ? 1 : 0; return n;
        case 12: return w.yields.size();
        case 13: for (int i = 0; i < w.text.length(); i++) n += "()[]{}".indexOf(w.text.charAt(i)) >= 0 && paired(i) < 0 ? 1 : 0; return n;
        case 14: return w.text.split("\n", -1).length;
        case 15: for (String l : w.text.split("\n", -1)) n = Math.max(n, l.length()); return n;
        default: return -1;
      }
    }

    int at(int i) { return isByte(i) ? w.text.charAt(i) : -1; }

    int token(int i, int what) {
      List<Token> ts = w.tokens();
      if (i < 0 || i >= ts.size() || what < 0 || what > 2) return -1;
      Token t = ts.get(i);
      return what == 0 ? t.sort() : what == 1 ? t.from() : t.to() - t.from();
    }

    int tokenAt(int i) {
      List<Token> ts = w.tokens();
      for (int t = 0; t < ts.size(); t++) if (i >= ts.get(t).from() && i < ts.get(t).to()) return t;
      return -1;
    }

    int rule(int r, int what) {
      if (!isRule(r)) return -1;
      int n = 0;
      switch (what) {
        case 0: return w.rules.get(r).weight();
        case 1: return w.rules.get(r).elements().size();
        case 2: return w.rules.get(r).parts().size();
        case 3: return w.on.get(r) ? 1 : 0;
        case 4: for (Finding f : w.findings()) n += f.rule() == r ? 1 : 0; return n;
        default: return -1;
      }
    }

    boolean fits(int r, int t) { return isRule(r) && w.fit(r, t) != null; }

    int finding(int i, int what) {
      List<Finding> fs = w.findings();
      if (i < 0 || i >= fs.size()) return -1;
      Finding f = fs.get(i);
      switch (what) {
        case 0: return f.rule();
        case 1: return f.from();
        case 2: return f.to();
        case 3: return f.fresh().length();
        case 4: return f.value();
        case 5: return f.silent() ? 1 : 0;
        case 6: return w.set(fs).contains(i) ? 1 : 0;
        case 7: return w.yielded(fs, i) ? 1 : 0;
        default: return -1;
      }
    }

    int fresh(int i, int k) {
      List<Finding> fs = w.findings();
      if (i < 0 || i >= fs.size() || k < 0 || k >= fs.get(i).fresh().length()) return -1;
      return fs.get(i).fresh().charAt(k);
    }

    int clashes(int i) {
      List<Finding> fs = w.findings();
      if (i < 0 || i >= fs.size()) return -1;
      int n = 0;
      for (int j = 0; j < fs.size(); j++) n += j != i && !fs.get(j).silent() && World.share(fs.get(i), fs.get(j)) ? 1 : 0;
      return n;
    }

    int set(int i) {
      List<Integer> s = w.set(w.findings());
      return i == -1 ? s.size() : i >= 0 && i < s.size() ? s.get(i) : -1;
    }

    int worth() { List<Finding> fs = w.findings(); return w.valueOf(fs, w.set(fs)); }

    int chosen(int r) {
      if (!isRule(r)) return -1;
      List<Finding> fs = w.findings();
      int n = 0;
      for (int i : w.set(fs)) n += fs.get(i).rule() == r ? 1 : 0;
      return n;
    }

    int without(int r) {
      if (!isRule(r)) return -1;
      World v = w.copy();
      v.on.set(r, false);
      List<Finding> fs = v.findings();
      return v.valueOf(fs, v.set(fs));
    }

    int span(int r, int t) {
      if (!fits(r, t)) return -1;
      List<Token> ts = w.tokens();
      return ts.get(t + w.rules.get(r).elements().size() - 1).to() - ts.get(t).from();
    }

    int silenced(int i, int what) {
      if (i < 0 || i >= w.silenced.size() || what < 0 || what > 1) return -1;
      return w.silenced.get(i)[what];
    }

    boolean isSilent(int i) { return isByte(i) && w.hides(i, i + 1); }
    int yielding(int i) { return i < 0 || i >= w.yields.size() ? -1 : w.yields.get(i)[0] * 10 + w.yields.get(i)[1]; }
    int paint(int i) { return isByte(i) ? w.paints.get(i) : -1; }
    int painted(int r) { return isRule(r) ? Collections.frequency(w.paints, r) : -1; }

    int book(int i, int what) {
      if (i == -1) return w.book.size();
      if (i < 0 || i >= w.book.size() || what < 0 || what > 2) return -2;
      return w.book.get(i)[what];
    }

    int common(int what) {
      Map<String, int[]> words = new LinkedHashMap<>();
      List<Token> ts = w.tokens();
      for (int t = 0; t < ts.size(); t++) {
        if (ts.get(t).sort() != 0) continue;
        words.putIfAbsent(ts.get(t).bytes(), new int[] {t, 0});
        words.get(ts.get(t).bytes())[1]++;
      }
      int[] top = null;
      for (int[] x : words.values()) if (top == null || x[1] > top[1]) top = x;
      return top == null || what < 0 || what > 1 ? -1 : top[what];
    }

    int paired(int i) {
      int[] with = new int[w.text.length()];
      Arrays.fill(with, -1);
      for (int k = 0; k < with.length; k++) {
        int sort = ")]}".indexOf(w.text.charAt(k));
        if (sort < 0) continue;
        int latest = -1;
        for (int j = 0; j < k; j++) if (w.text.charAt(j) == "([{".charAt(sort) && with[j] < 0) latest = j;
        boolean clear = latest >= 0;
        for (int j = latest + 1; j < k; j++) if ("([{".indexOf(w.text.charAt(j)) >= 0 && with[j] < 0) clear = false;
        if (clear) { with[k] = latest; with[latest] = k; }
      }
      return isByte(i) ? with[i] : -1;
    }

    int line(int i, int what) {
      if (!isByte(i) || what < 0 || what > 1) return -1;
      String ahead = w.text.substring(0, i);
      return what == 0 ? (int) ahead.chars().filter(c -> c == 10).count() : i - (ahead.lastIndexOf('\n') + 1);
    }

    int course(int what) {
      Course c = new Course(w);
      switch (what) {
        case 0: return c.ending;
        case 1: return c.worlds.size() - 1;
        case 2: return c.first;
        case 3: return c.ending == 1 ? c.worlds.size() - 1 - c.first : -1;
        case 4: return c.worlds.get(c.worlds.size() - 1).text.length();
        case 5: return c.findings;
        default: return -1;
      }
    }

    private String behind(int n) { Course c = new Course(w); return c.worlds.get(Math.min(n, c.worlds.size() - 1)).text; }

    int later(int n, int i) {
      if (n < 0 || n > 30) return -1;
      String t = behind(n);
      return i >= 0 && i < t.length() ? t.charAt(i) : -1;
    }

    int digest(int n) { return n < 0 || n > 30 ? 0 : behind(n).hashCode(); }
    int used() { return new Course(w).bitsFrom(0); }
    int circling() { Course c = new Course(w); return c.ending == 1 ? c.bitsFrom(c.first) : 0; }

    int cure() {
      List<Integer> all = new ArrayList<>();
      for (int b = 0; b < 1 << w.rules.size(); b++) all.add(b);
      all.sort((a, b) -> Integer.bitCount(a) != Integer.bitCount(b) ? Integer.bitCount(a) - Integer.bitCount(b) : a - b);
      for (int b : all) {
        World v = w.copy();
        boolean may = true;
        for (int r = 0; r < v.rules.size(); r++) if ((b >> r & 1) == 1) { may &= v.on.get(r); v.on.set(r, false); }
        if (may && new Course(v).ending == 0) return b;
      }
      return -1;
    }

    int mean() {
      float sum = 0f;
      int n = 0;
      for (Finding f : w.findings()) if (!f.silent()) { sum += (float) f.value(); n++; }
      return n == 0 ? 0 : Float.floatToIntBits(sum / (float) n);
    }

    long share() {
      if (w.text.isEmpty()) return 0;
      List<Finding> fs = w.findings();
      int bytes = 0;
      for (int i : w.set(fs)) bytes += fs.get(i).to() - fs.get(i).from();
      return Double.doubleToLongBits((double) bytes / (double) w.text.length());
    }
  }

  // ---- what is told and asked ----

  private static final String[] SNIPPETS = {
    "a", "b", "cat", "dog", "a a", "1", "0", "09", "7", "999999999", "1234567890", " ", "  ", "\n", "(", ")", "[", "]", "{", "}",
    "!", ",", "a,", "the the", "x1", "'", "A", "+", "a b a", "12 12", "ab ba"
  };
  private static final String[] ELEMENTS = {
    "wa", "wa", "wb", "na", "nb", "sa", "sb", "_", "_", "'a'", "'b'", "'cat'", "' '", "'1'", "','", "'('", "wc", "wd", "nd"
  };
  private static final String[] PARTS = {
    "wa", "wa", "wb", "na", "nb", "sa", "+na", "-na", "+nb", "~wa", "~wb", "' '", "''", "'a'", "'b'", "'cat'", "'dog'", "','", "'1'", "'a b'"
  };

  // RULES that often FIT, clash, grow, and undo what another one did
  private static final String[] RULES = {
    "'a'>'b'", "'b'>'a'", "'a'>'a a'", "wa_wa>wa", "wa_wb>wb' 'wa", "na>+na", "na>-na", "wa>~wa", "wa>wawa", "sa>sasa",
    "_>' '", "_>", "'cat'>'dog'", "'dog'>'cat'", "wa_wb>wa", "wa_>wa','", "wa','>wa' '", "sa_>sa", "'('wa>wa'('", "wa'('>'('wa",
    "na_nb>nb' 'na", "na>", "wa>", "wa_wb_wc>wc' 'wb' 'wa", "_wa>wa' '", "' '>'  '", "'  '>' '", "na_na>na", "wana>nawa", "nawa>wana"
  };

  private final Random random;
  private final StyleFixes x = new StyleFixes();
  private final Model m = new Model();
  private final StringBuilder trace = new StringBuilder();
  private int wrong = 0;

  private StyleFixesAgainstModel(int seed) { random = new Random(seed); }

  private <T> T one(T[] of) { return of[random.nextInt(of.length)]; }

  private void due(String call, long got, long want) {
    trace.append(call).append(" = ").append(got).append('\n');
    if (got != want) { wrong++; trace.append("  due is ").append(want).append('\n'); }
  }

  private static long as(boolean b) { return b ? 1 : 0; }

  private void feed(String s) {
    due("end(0)", x.end(0), m.end(0));
    for (int i = 0; i < s.length(); i += 20) {
      int[] v = new int[5];
      for (int k = 0; k < 20; k++) v[k / 4] = v[k / 4] << 8 | (i + k < s.length() ? s.charAt(i + k) : 0);
      due("feed", x.feed(v[0], v[1], v[2], v[3], v[4]), m.feed(v));
    }
    due("end(" + s.length() + ") [" + s + "]", x.end(s.length()), m.end(s.length()));
  }

  private String someText() {
    StringBuilder b = new StringBuilder();
    int n = random.nextInt(10) == 0 ? 0 : 3 + random.nextInt(random.nextInt(6) == 0 ? 60 : 14);
    int kinds = 1 + random.nextInt(random.nextBoolean() ? 7 : SNIPPETS.length);
    boolean spaced = random.nextBoolean();
    for (int i = 0; i < n; i++) {
      b.append(SNIPPETS[random.nextInt(kinds)]);
      if (spaced) b.append(' ');
    }
    if (random.nextInt(30) == 0) b.append((char) random.nextInt(256));
    return b.length() > 300 ? b.substring(0, 300) : b.toString();
  }

  private String someRule() {
    StringBuilder b = new StringBuilder();
    b.append(random.nextInt(40) == 0 ? random.nextInt(120) : 1 + random.nextInt(random.nextBoolean() ? 5 : 99)).append(':');
    if (random.nextInt(3) > 0) return b.append(one(RULES)).toString();
    List<String> names = new ArrayList<>();
    int n = 1 + random.nextInt(random.nextInt(20) == 0 ? 8 : 3);
    for (int i = 0; i < n; i++) {
      String e = one(ELEMENTS);
      b.append(e);
      if (Character.isLetter(e.charAt(0))) names.add(e);
    }
    b.append('>');
    n = random.nextInt(random.nextInt(20) == 0 ? 9 : 4);
    for (int i = 0; i < n; i++) {
      String p = one(PARTS);
      String name = p.replaceAll("^[-+~]", "");
      boolean known = !Character.isLetter(name.charAt(0)) || names.contains(name);
      if (known || random.nextInt(60) == 0) b.append(p);
      else if (!names.isEmpty()) b.append(names.get(random.nextInt(names.size())));
    }
    return b.toString();
  }

  private String someRules() {
    StringBuilder b = new StringBuilder();
    int n = random.nextInt(15) == 0 ? 0 : 1 + random.nextInt(random.nextInt(10) == 0 ? 8 : 5);
    for (int i = 0; i < n; i++) b.append(i == 0 ? "" : ";").append(someRule());
    if (random.nextInt(6) == 0 && b.length() > 0) {
      int at = random.nextInt(b.length());
      if (random.nextBoolean()) b.deleteCharAt(at);
      else b.setCharAt(at, random.nextInt(6) == 0 ? (char) random.nextInt(256) : "wns_'abcd+-~:;>019 e".charAt(random.nextInt(20)));
    }
    return b.length() > 300 ? b.substring(0, 300) : b.toString();
  }

  private int place() { return random.nextInt(10) == 0 ? random.nextInt() : random.nextInt(m.w.text.length() + 3) - 1; }
  private int small(int n) { return random.nextInt(30) == 0 ? random.nextInt() : random.nextInt(n + 2) - 1; }
  private int aFinding() { return small(Math.max(1, m.w.findings().size())); }

  private void tellRules() {
    feed(someRules());
    due("rules()", x.rules(), m.rules());
    for (int i = random.nextInt(6); i > 0; i--) {
      int a = small(4);
      int b = small(4);
      due("yields(" + a + ", " + b + ")", as(x.yields(a, b)), as(m.yields(a, b)));
    }
  }

  private void tell() {
    int a, b;
    boolean is;
    switch (random.nextInt(20)) {
      case 0: feed(someText()); due("text()", x.text(), m.text()); break;
      case 1: tellRules(); break;
      case 2: case 3: a = small(6); is = random.nextInt(3) > 0; due("on(" + a + ", " + is + ")", as(x.on(a, is)), as(m.on(a, is))); break;
      case 4: case 5: a = place(); b = random.nextBoolean() ? a + random.nextInt(4) : place(); due("silence(" + a + ", " + b + ")", x.silence(a, b), m.silence(a, b)); break;
      case 6: a = small(8); due("hear(" + a + ")", as(x.hear(a)), as(m.hear(a))); break;
      case 7: a = small(2); due("measure(" + a + ")", as(x.measure(a)), as(m.measure(a))); break;
      case 8: a = random.nextInt(3) == 0 ? small(21) : small(4); due("most(" + a + ")", as(x.most(a)), as(m.most(a))); break;
      case 9: a = place(); b = random.nextInt(4) == 0 ? small(130) : one(SNIPPETS).charAt(0); due("put(" + a + ", " + b + ")", as(x.put(a, b)), as(m.put(a, b))); break;
      case 10: case 11: a = small(4); b = small(4); due("yields(" + a + ", " + b + ")", as(x.yields(a, b)), as(m.yields(a, b))); break;
      case 12: if (random.nextInt(3) == 0) due("insist()", x.insist(), m.insist()); break;
      case 13: case 14: a = aFinding(); due("apply(" + a + ")", x.apply(a), m.apply(a)); break;
      case 15: case 16: a = random.nextInt(4) == 0 ? small(31) : small(3); due("make(" + a + ")", x.make(a), m.make(a)); break;
      case 17: due("undo()", x.undo(), m.undo()); break;
      case 18: if (random.nextBoolean()) due("image()", x.image(), m.image()); else due("back()", x.back(), m.back()); break;
      default: a = small(21); due("end(" + a + ")", x.end(a), m.end(a)); break;
    }
  }

  private void ask() {
    int a, b;
    switch (random.nextInt(36)) {
      case 0: case 1: a = small(16); due("is(" + a + ")", x.is(a), m.is(a)); break;
      case 2: a = place(); due("at(" + a + ")", x.at(a), m.at(a)); break;
      case 3: a = place(); b = small(3); due("token(" + a + ", " + b + ")", x.token(a, b), m.token(a, b)); break;
      case 4: a = place(); due("tokenAt(" + a + ")", x.tokenAt(a), m.tokenAt(a)); break;
      case 5: a = small(6); b = small(5); due("rule(" + a + ", " + b + ")", x.rule(a, b), m.rule(a, b)); break;
      case 6: a = small(4); b = place(); due("fits(" + a + ", " + b + ")", as(x.fits(a, b)), as(m.fits(a, b))); break;
      case 7: case 8: case 9: a = aFinding(); b = small(8); due("finding(" + a + ", " + b + ")", x.finding(a, b), m.finding(a, b)); break;
      case 10: a = aFinding(); b = small(6); due("fresh(" + a + ", " + b + ")", x.fresh(a, b), m.fresh(a, b)); break;
      case 11: a = aFinding(); due("clashes(" + a + ")", x.clashes(a), m.clashes(a)); break;
      case 12: case 13: a = small(5); due("set(" + a + ")", x.set(a), m.set(a)); break;
      case 14: due("worth()", x.worth(), m.worth()); break;
      case 15: a = small(6); due("chosen(" + a + ")", x.chosen(a), m.chosen(a)); break;
      case 16: a = small(6); due("without(" + a + ")", x.without(a), m.without(a)); break;
      case 17: a = small(4); b = place(); due("span(" + a + ", " + b + ")", x.span(a, b), m.span(a, b)); break;
      case 18: a = small(4); b = small(2); due("silenced(" + a + ", " + b + ")", x.silenced(a, b), m.silenced(a, b)); break;
      case 19: a = place(); due("isSilent(" + a + ")", as(x.isSilent(a)), as(m.isSilent(a))); break;
      case 20: a = small(8); due("yielding(" + a + ")", x.yielding(a), m.yielding(a)); break;
      case 21: a = place(); due("paint(" + a + ")", x.paint(a), m.paint(a)); break;
      case 22: a = small(6); due("painted(" + a + ")", x.painted(a), m.painted(a)); break;
      case 23: a = random.nextBoolean() ? small(3) : small(24); b = small(3); due("book(" + a + ", " + b + ")", x.book(a, b), m.book(a, b)); break;
      case 24: a = small(2); due("common(" + a + ")", x.common(a), m.common(a)); break;
      case 25: a = place(); due("paired(" + a + ")", x.paired(a), m.paired(a)); break;
      case 26: a = place(); b = small(2); due("line(" + a + ", " + b + ")", x.line(a, b), m.line(a, b)); break;
      case 27: due("circling()", x.circling(), m.circling()); break;
      case 28: a = small(6); due("course(" + a + ")", x.course(a), m.course(a)); break;
      case 29: a = small(31); b = place(); due("later(" + a + ", " + b + ")", x.later(a, b), m.later(a, b)); break;
      case 30: a = small(31); due("digest(" + a + ")", x.digest(a), m.digest(a)); break;
      case 31: due("used()", x.used(), m.used()); break;
      case 32: if (random.nextInt(4) == 0) due("cure()", x.cure(), m.cure()); break;
      case 33: due("mean()", x.mean(), m.mean()); break;
      case 34: due("share()", x.share(), m.share()); break;
      default: due("steps()", x.steps(), m.steps.size()); a = small(2); due("fault(" + a + ")", x.fault(a), a == 0 ? m.fault : a == 1 ? m.place : -1); break;
    }
  }

  private boolean run(int seed) {
    feed(someText());
    due("text()", x.text(), m.text());
    tellRules();
    if (random.nextInt(4) > 0) due("image()", x.image(), m.image());
    for (int i = 0; i < CALLS && wrong == 0; i++) {
      if (random.nextInt(3) == 0) tell(); else ask();
    }
    if (wrong != 0) System.out.println("seed " + seed + ":\n" + trace);
    return wrong == 0;
  }

  public static void main(String[] args) {
    int from = args.length > 0 ? Integer.parseInt(args[0]) : 0;
    int runs = args.length > 1 ? Integer.parseInt(args[1]) : RUNS;
    int bad = 0;
    for (int seed = from; seed < from + runs && bad < 3; seed++) {
      if (!new StyleFixesAgainstModel(seed).run(seed)) bad++;
    }
    System.out.println(bad == 0 ? runs + " runs answer as the model does" : bad + " runs differ from the model");
    if (bad != 0) System.exit(1);
  }
}
