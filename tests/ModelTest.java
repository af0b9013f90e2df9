import java.util.ArrayDeque;
import java.util.ArrayList;
import java.util.Arrays;
import java.util.Deque;
import java.util.HashMap;
import java.util.List;
import java.util.Map;
import java.util.Random;
import java.util.function.IntPredicate;
import java.util.function.ToIntFunction;
import java.util.regex.Matcher;
import java.util.regex.Pattern;

/** A second reading of the document, written otherwise, compared with the program over runs of calls by lot. */
public final class ModelTest {
  private static int wrong = 0;

  public static void main(String[] args) {
    for (int run = 0; run < 400 && wrong < 20; run++) new Run(run).go();
    System.out.println(wrong == 0 ? "the model agrees" : wrong + " answers are not as the model's");
    if (wrong != 0) System.exit(1);
  }

  // ---- runs by lot

  private static final class Run {
    private final int number;
    private final Random lot;
    private final TooHotTooCold real = new TooHotTooCold();
    private final Model model = new Model();
    private final StringBuilder calls = new StringBuilder();

    Run(int number) {
      this.number = number;
      this.lot = new Random(number);
    }

    void go() {
      int showers = lot.nextInt(5);
      for (int k = 0; k < showers; k++) shower();
      for (int k = 0; k < 120; k++) call();
      for (int x = 0; x < 4; x++) asIs(x);
    }

    private void due(String call, long got, long want) {
      calls.append(call).append(';');
      if (got == want) return;
      wrong++;
      System.out.println("run " + number + ": " + call + " answered " + got + ", the model " + want + " after " + calls);
    }

    /** Mostly a number as told, at times one beside it. */
    private int some(int least, int most) {
      switch (lot.nextInt(60)) {
        case 0: return least - 1;
        case 1: return most + 1;
        case 2: return lot.nextInt();
        case 3: return lot.nextBoolean() ? Integer.MIN_VALUE : Integer.MAX_VALUE;
        default: return least + lot.nextInt(most - least + 1);
      }
    }

    private int x() {
      return some(0, lot.nextInt(4) == 0 ? 3 : Math.max(0, model.house.showers.size() - 1));
    }

    private int near() {
      return lot.nextBoolean() ? some(0, 30) : some(0, 999);
    }

    private void shower() {
      int k = some(0, 59), l = some(0, 4), w = lot.nextBoolean() ? some(0, 120) : some(0, 999);
      due("shower(" + k + ", " + l + ", " + w + ")", real.shower(k, l, w), model.answer(() -> model.shower(k, l, w)));
    }

    private void call() {
      switch (lot.nextInt(14)) {
        case 0: change(); break;
        case 1: law(); break;
        case 2: asks(); break;
        case 3: case 4: morning(); break;
        case 5: haste(); break;
        case 6: hurt(); break;
        case 7: case 8: case 9: film(); break;
        case 10: byLot(); break;
        case 11: case 12: host(); break;
        default: small(); break;
      }
    }

    private void change() {
      int x = x(), what = some(0, 4);
      int most = what == 0 ? 4 : what == 3 ? 16 : what == 4 ? 1 : 999;
      int v = some(0, most);
      due("set(" + x + ", " + what + ", " + v + ")", real.set(x, what, v), model.answer(() -> model.set(x, what, v)));
    }

    private void law() {
      String text = new TextsByLot(lot).text();
      if (lot.nextInt(3) == 0) {
        int t = some(0, 5);
        due("force(" + t + ")", real.force(t), model.answer(() -> model.force(t)));
        return;
      }
      for (int i = 0; i < text.length(); ) {
        int n = Math.min(1 + lot.nextInt(5), text.length() - i);
        int[] b = new int[5];
        for (int k = 0; k < n; k++) b[k] = text.charAt(i + k);
        feed(n, b);
        i += n;
      }
      due("text()", real.text(), model.answer(model::text));
    }

    private void feed(int n, int[] b) {
      due("feed(" + n + ", " + Arrays.toString(b) + ")", real.feed(n, b[0], b[1], b[2], b[3], b[4]),
          model.answer(() -> model.feed(n, b)));
    }

    private void asks() {
      int part = some(0, 2), c = some(0, 3999999), s = some(0, 999), t = some(0, 29), x = x();
      due("asks(" + part + ", " + c + ", " + s + ", " + t + ", " + x + ")", real.asks(part, c, s, t, x),
          model.answer(() -> model.asks(part, c, s, t, x)));
    }

    private void morning() {
      int x = x(), near = near(), beat = some(0, 29), what = some(0, 2), four = some(0, 3), n = some(0, 30);
      switch (lot.nextInt(7)) {
        case 0: due("at(" + x + ", " + beat + ", " + what + ")", real.at(x, beat, what), model.answer(() -> model.at(x, beat, what))); break;
        case 1: due("day(" + x + ", " + four + ")", real.day(x, four), model.answer(() -> model.day(x, four))); break;
        case 2: due("rests(" + x + ", " + near + ")", real.rests(x, near), model.answer(() -> model.rests(x, near))); break;
        case 3: due("sways(" + x + ")", real.sways(x), model.answer(() -> model.sways(x))); break;
        case 4: case 5: due("house(" + what + ")", real.house(what), model.answer(() -> model.house(what))); break;
        default: due("pass(" + n + ")", real.pass(n), model.answer(() -> model.pass(n))); break;
      }
    }

    private void haste() {
      int x = x(), y = x(), near = near(), what = some(0, 1);
      switch (lot.nextInt(5)) {
        case 0: due("best(" + x + ", " + what + ")", real.best(x, what), model.answer(() -> model.best(x, what))); break;
        case 1: due("line(" + x + ", " + near + ")", real.line(x, near), model.answer(() -> model.line(x, near))); break;
        case 2: due("soon(" + x + ", " + near + ", " + what + ")", real.soon(x, near, what), model.answer(() -> model.soon(x, near, what))); break;
        case 3: due("card(" + what + ")", real.card(what), model.answer(() -> model.card(what))); break;
        default: due("even(" + x + ", " + y + ", " + what + ")", real.even(x, y, what), model.answer(() -> model.even(x, y, what))); break;
      }
    }

    private void hurt() {
      int x = x(), y = x(), what = some(0, 1);
      switch (lot.nextInt(4)) {
        case 0: due("hurts(" + x + ", " + y + ")", real.hurts(x, y), model.answer(() -> model.hurts(x, y))); break;
        case 1: due("off(" + what + ")", real.off(what), model.answer(() -> model.off(what))); break;
        case 2: due("stills(" + x + ")", real.stills(x), model.answer(() -> model.stills(x))); break;
        default: due("leave(" + x + ", " + what + ")", real.leave(x, what), model.answer(() -> model.leave(x, what))); break;
      }
    }

    private void film() {
      int s = some(0, 3), x = x(), y = x(), n = some(0, 30), sort = some(0, 1);
      if (lot.nextBoolean()) due("film(" + s + ", " + x + ", " + n + ")", real.film(s, x, n), model.answer(() -> model.film(s, x, n)));
      else if (lot.nextBoolean()) beats(s, x);
      if (lot.nextInt(3) == 0) cell(s);
      switch (lot.nextInt(7)) {
        case 0: due("judge(" + s + ", " + y + ")", real.judge(s, y), model.answer(() -> model.judge(s, y))); break;
        case 1: due("whose(" + s + ")", real.whose(s), model.answer(() -> model.whose(s))); break;
        case 2: due("fits(" + s + ", " + y + ", " + sort + ")", real.fits(s, y, sort), model.answer(() -> model.fits(s, y, sort))); break;
        case 3: due("kinds(" + s + ", " + y + ", " + sort + ")", real.kinds(s, y, sort), model.answer(() -> model.kinds(s, y, sort))); break;
        case 4: due("laws(" + s + ", " + y + ")", real.laws(s, y), model.answer(() -> model.laws(s, y))); break;
        case 5: due("criers(" + s + ")", real.criers(s), model.answer(() -> model.criers(s))); break;
        default: due("heard(" + s + ", " + y + ")", real.heard(s, y), model.answer(() -> model.heard(s, y))); break;
      }
    }

    /** A sheet of just the beats in which one cries. */
    private void beats(int s, int x) {
      int cries = Math.max(0, real.day(x, 1));
      int sort = lot.nextInt(3);
      int size = Integer.bitCount(cries);
      due("sheet(" + s + ", " + sort + ", " + size + ")", real.sheet(s, sort, size), model.answer(() -> model.sheet(s, sort, size)));
      int i = 0;
      for (int t = 0; t < 30; t++) {
        if ((cries >> t & 1) == 0) continue;
        int place = i++, beat = t;
        due("cell(" + s + ", " + place + ", " + beat + ")", real.cell(s, place, beat), model.answer(() -> model.cell(s, place, beat)));
      }
    }

    private void cell(int s) {
      int i = some(0, 39), v = lot.nextInt(3) == 0 ? lot.nextInt() : lot.nextInt(200) - 10;
      due("cell(" + s + ", " + i + ", " + v + ")", real.cell(s, i, v), model.answer(() -> model.cell(s, i, v)));
    }

    private void byLot() {
      int seed = some(0, 99999), what = some(0, 1), seeds = some(1, 30), near = near();
      switch (lot.nextInt(5)) {
        case 0: due("drawn(" + seed + ", " + what + ")", real.drawn(seed, what), model.answer(() -> model.drawn(seed, what))); break;
        case 1: case 2:
          due("odds(" + seed + ", " + seeds + ", " + near + ", " + what + ")", real.odds(seed, seeds, near, what),
              model.answerOr(TooHotTooCold.NO, () -> model.odds(seed, seeds, near, what)));
          break;
        case 3: due("image()", real.image(), model.answer(model::image)); break;
        default: due("back()", real.back(), model.answer(model::back)); break;
      }
    }

    private void host() {
      int s = some(0, 3), o = some(0, 3), sort = some(-1, 2), n = some(-2, 41), at = some(-1, 40), to = some(-1, 40);
      int few = some(0, 4), len = lot.nextBoolean() ? some(0, 8) : some(0, 40), i = some(0, 7), kind = some(0, 6);
      switch (lot.nextInt(5)) {
        case 0: due("sheet(" + s + ", " + sort + ", " + n + ")", real.sheet(s, sort, n), model.answer(() -> model.sheet(s, sort, n))); break;
        case 1: cell(s); break;
        case 2: due("copy(" + s + ", " + at + ", " + o + ", " + to + ", " + len + ")", real.copy(s, at, o, to, len), model.answer(() -> model.copy(s, at, o, to, len))); break;
        case 3: due("showersBy(" + s + ", " + sort + ", " + at + ", " + few + ")", real.showersBy(s, sort, at, few), model.answer(() -> model.showersBy(s, sort, at, few))); break;
        default: due("taken(" + i + ", " + kind + ")", real.taken(i, kind), model.answer(() -> model.taken(i, kind))); break;
      }
    }

    private void small() {
      int what = some(0, 4), x = x(), eight = some(0, 7);
      switch (lot.nextInt(3)) {
        case 0: due("count(" + what + ")", real.count(what), model.answer(() -> model.count(what))); break;
        case 1: due("told(" + x + ", " + eight + ")", real.told(x, eight), model.answer(() -> model.told(x, eight))); break;
        default: if (lot.nextInt(3) == 0) shower(); break;
      }
    }

    private void asIs(int x) {
      for (int w = 0; w < 8; w++) {
        int what = w;
        due("told(" + x + ", " + what + ")", real.told(x, what), model.answer(() -> model.told(x, what)));
      }
      for (int w = 0; w < 5; w++) {
        int what = w;
        due("count(" + what + ")", real.count(what), model.answer(() -> model.count(what)));
      }
    }
  }

  /** Texts, most of them such as the document wants them. */
  private static final class TextsByLot {
    private final Random lot;
    private final StringBuilder out = new StringBuilder();

    TextsByLot(Random lot) {
      this.lot = lot;
    }

    String text() {
      if (lot.nextInt(20) == 0) return "";
      word("turns");
      e(0);
      word(";");
      word("costs");
      e(0);
      word(";");
      word("yells");
      e(0);
      word(";");
      if (lot.nextInt(3) == 0) spoil();
      return out.substring(0, Math.min(170, out.length()));
    }

    private void spoil() {
      int at = lot.nextInt(out.length());
      String[] bits = {" ", "not ", "-", "(", ")", "12345 ", "A", "xx", "\n", "or", "<", "=", ";", "cold", "\t", "é", "9"};
      switch (lot.nextInt(3)) {
        case 0: out.deleteCharAt(at); break;
        case 1: out.insert(at, bits[lot.nextInt(bits.length)]); break;
        default: out.setLength(at); break;
      }
    }

    private void word(String w) {
      boolean glued = out.length() > 0 && Character.isLetterOrDigit(out.charAt(out.length() - 1)) && Character.isLetterOrDigit(w.charAt(0));
      if (glued || lot.nextInt(3) == 0) out.append(lot.nextInt(8) == 0 ? '\n' : ' ');
      out.append(w);
    }

    private void e(int depth) {
      int k = lot.nextInt(depth < 2 ? 16 : 7);
      if (k < 2) word("cold");
      else if (k == 2) word(String.valueOf(lot.nextInt(lot.nextBoolean() ? 30 : 10000)));
      else if (k < 7) word(new String[] {"was", "set", "beat", "late", "more", "cold"}[lot.nextInt(6)]);
      else if (k < 9) two(depth, "+", "-");
      else if (k == 9) two(depth, "*", "*");
      else if (k == 10) two(depth, "<", "=");
      else if (k == 11) two(depth, "and", "or");
      else if (k == 12) { word("not"); e(depth + 1); }
      else if (k == 13) { for (int i = lot.nextInt(6); i >= 0; i--) word("-"); word("cold"); }
      else { word("("); e(depth + 1); word(")"); }
    }

    private void two(int depth, String a, String b) {
      e(depth + 1);
      word(lot.nextBoolean() ? a : b);
      e(depth + 1);
    }
  }

  // ---- the model

  private static final class Refused extends RuntimeException {
    private static final long serialVersionUID = 1L;
    final long answer;

    Refused(long answer) {
      this.answer = answer;
    }
  }

  private static void unless(boolean fine, long answer) {
    if (!fine) throw new Refused(answer);
  }

  private interface Asked {
    long now();
  }

  private interface Part {
    int of(Map<String, Integer> names);
  }

  private static boolean in(int v, int least, int most) {
    return least <= v && v <= most;
  }

  private static int cut(int v, int least, int most) {
    return Math.max(least, Math.min(most, v));
  }

  private static class Shower implements Cloneable {
    int more, late, wanted, set, haste = 8;
    boolean on = true;

    int felt(int comes, int n, int t) { return comes; }
    int turned(int far) { return far; }
    int scalds() { return 50; }
    int kind() { return 0; }

    static Shower of(int kind) {
      switch (kind) {
        case 0: return new Shower();
        case 1: return new Shared();
        case 2: return new Notched();
        case 3: return new Boiler();
        case 4: return new Sticking();
        default: return new Old();
      }
    }

    Shower as(Shower newKind) {
      newKind.more = more;
      newKind.late = late;
      newKind.wanted = wanted;
      newKind.set = set;
      newKind.haste = haste;
      newKind.on = on;
      return newKind;
    }

    Shower twin() { return as(of(kind())); }
  }

  private static class Shared extends Shower {
    @Override int felt(int comes, int n, int t) { return super.felt(comes, n, t) - (2 * more + 1) * n; }
    @Override int kind() { return 1; }
  }

  private static class Notched extends Shower {
    @Override int turned(int far) { return super.turned(far) / (more + 1) * (more + 1); }
    @Override int kind() { return 2; }
  }

  private static final class Boiler extends Shared {
    @Override int felt(int comes, int n, int t) {
      int felt = super.felt(comes, n, t);
      return t % (more + 2) == more + 1 ? felt / 2 : felt;
    }
    @Override int scalds() { return super.scalds() + 10 * more; }
    @Override int kind() { return 3; }
  }

  private static final class Sticking extends Notched {
    @Override int turned(int far) { return Math.abs(far) < 3 * more ? 0 : super.turned(far); }
    @Override int kind() { return 4; }
  }

  private static final class Old extends Shower {
    @Override int turned(int far) { return 0; }
    @Override int scalds() { return super.scalds() - 4 * more; }
    @Override int kind() { return 5; }
  }

  private static final class House {
    List<Shower> showers = new ArrayList<>();
    int law = 0;

    House twin() {
      House h = new House();
      h.law = law;
      for (Shower s : showers) h.showers.add(s.twin());
      return h;
    }
  }

  /** What came of some beats: [shower][beat]. */
  private static final class Day {
    int[][] felt, setBegins, setEnds, cost;
    boolean[][] cries, scalded;
    int beats;

    Day(int n, int beats) {
      this.beats = beats;
      felt = new int[n][beats];
      setBegins = new int[n][beats];
      setEnds = new int[n][beats];
      cost = new int[n][beats];
      cries = new boolean[n][beats];
      scalded = new boolean[n][beats];
    }

    int cost(int x) { return Arrays.stream(cost[x]).sum(); }
    int cost() {
      int sum = 0;
      for (int x = 0; x < cost.length; x++) sum += cost(x);
      return sum;
    }
    int bits(boolean[] row) {
      int bits = 0;
      for (int t = 0; t < row.length; t++) if (row[t]) bits += 1 << t;
      return bits;
    }
    int rests(int x, int wanted, int near) {
      for (int from = 0; from < 30; from++) {
        if (Arrays.stream(felt[x], from, 30).allMatch(f -> Math.abs(wanted - f) <= near)) return from;
      }
      return -1;
    }
    int criers() {
      int bits = 0;
      for (int x = 0; x < cries.length; x++) if (bits(cries[x]) != 0) bits |= 1 << x;
      return bits;
    }
  }

  private static final class Fault extends RuntimeException {
    private static final long serialVersionUID = 1L;
    final int place;

    Fault(int place) {
      this.place = place;
    }
  }

  /** First what may stand where, by what is open; then what it says, by the weakest sign outside. */
  private static final class Text {
    private static final Pattern TOKEN = Pattern.compile("[a-z]+|[0-9]+|[();+\\-*<=]");
    private static final List<String> NAMES = Arrays.asList("cold", "was", "set", "beat", "late", "more");
    private final List<String> tokens = new ArrayList<>();
    private final List<Integer> places = new ArrayList<>();
    private final Part[] parts = new Part[3];
    private int next = 0;

    Text(String text) {
      boolean cutShort = false;
      int i = 0;
      while (i < text.length() && !cutShort) {
        char c = text.charAt(i);
        if (c == ' ' || c == '\n') { i++; continue; }
        Matcher m = TOKEN.matcher(text).region(i, text.length());
        places.add(i);
        if (m.lookingAt()) {
          String t = m.group();
          tokens.add(Character.isDigit(t.charAt(0)) && t.length() > 4 ? "?" : t);
          i = m.end();
        } else {
          tokens.add("?");
          cutShort = true;
        }
      }
      tokens.add("$");
      places.add(text.length());
      String[] keys = {"turns", "costs", "yells"};
      for (String key : keys) {
        want(tokens.get(next).equals(key));
        mayStand();
      }
      want(tokens.get(next).equals("$"));
      int from = 0;
      for (int p = 0; p < 3; p++) {
        int to = from;
        while (!tokens.get(to).equals(";")) to++;
        parts[p] = value(tokens.subList(from + 1, to));
        from = to + 1;
      }
    }

    private void want(boolean fine) {
      if (!fine) throw new Fault(places.get(next));
      next++;
    }

    /** One E and the sign behind it; a level is the signs that are open in it. */
    private void mayStand() {
      Deque<int[]> levels = new ArrayDeque<>();
      int[] level = {0, 0};  // nots that are open, whether < or = stood
      int minuses = 0;
      List<Integer> minusesOutside = new ArrayList<>();
      boolean one = true, notToo = true;
      while (true) {
        String t = tokens.get(next);
        int open = levels.size() + minuses + level[0];
        for (int[] l : levels) open += l[0];
        for (int m : minusesOutside) open += m;
        if (one) {
          if (t.equals("(")) {
            want(open < 5);
            levels.push(level);
            minusesOutside.add(minuses);
            level = new int[] {0, 0};
            minuses = 0;
            notToo = true;
          } else if (t.equals("not")) {
            want(notToo && open < 5);
            level[0]++;
          } else if (t.equals("-")) {
            want(open < 5);
            minuses++;
            notToo = false;
          } else {
            want(NAMES.contains(t) || Character.isDigit(t.charAt(0)));
            minuses = 0;
            one = false;
          }
        } else if (t.equals(")")) {
          want(!levels.isEmpty());
          level = levels.pop();
          minusesOutside.remove(minusesOutside.size() - 1);
          minuses = 0;
        } else if (t.equals(";")) {
          want(levels.isEmpty());
          return;
        } else if (t.equals("or") || t.equals("and")) {
          want(true);
          level = new int[] {0, 0};
          one = true;
          notToo = true;
        } else if (t.equals("<") || t.equals("=")) {
          want(level[1] == 0);
          level[1] = 1;
          one = true;
          notToo = false;
        } else {
          want(t.equals("+") || t.equals("-") || t.equals("*"));
          one = true;
          notToo = false;
        }
      }
    }

    private static Part value(List<String> ts) {
      int at = last(ts, "or", "or");
      if (at > 0) return two(ts, at, (a, b) -> a != 0 || b != 0 ? 1 : 0);
      at = last(ts, "and", "and");
      if (at > 0) return two(ts, at, (a, b) -> a != 0 && b != 0 ? 1 : 0);
      if (ts.get(0).equals("not")) {
        Part rest = value(ts.subList(1, ts.size()));
        return n -> rest.of(n) == 0 ? 1 : 0;
      }
      at = last(ts, "<", "=");
      if (at > 0) return ts.get(at).equals("<") ? two(ts, at, (a, b) -> a < b ? 1 : 0) : two(ts, at, (a, b) -> a == b ? 1 : 0);
      at = last(ts, "+", "-");
      if (at > 0) return ts.get(at).equals("+") ? two(ts, at, (a, b) -> a + b) : two(ts, at, (a, b) -> a - b);
      at = last(ts, "*", "*");
      if (at > 0) return two(ts, at, (a, b) -> a * b);
      String t = ts.get(0);
      if (t.equals("-")) {
        Part rest = value(ts.subList(1, ts.size()));
        return n -> -rest.of(n);
      }
      if (t.equals("(")) return value(ts.subList(1, ts.size() - 1));
      if (Character.isDigit(t.charAt(0))) {
        int v = Integer.parseInt(t);
        return n -> v;
      }
      return n -> n.get(t);
    }

    private interface Two {
      int of(int a, int b);
    }

    private static Part two(List<String> ts, int at, Two how) {
      Part left = value(ts.subList(0, at)), right = value(ts.subList(at + 1, ts.size()));
      return n -> how.of(left.of(n), right.of(n));
    }

    /** The last such sign outside of ( ), between two. */
    private static int last(List<String> ts, String a, String b) {
      int depth = 0;
      for (int i = ts.size() - 1; i > 0; i--) {
        String t = ts.get(i), ahead = ts.get(i - 1);
        if (t.equals(")")) depth++;
        if (t.equals("(")) depth--;
        boolean between = ahead.equals(")") || NAMES.contains(ahead) || Character.isDigit(ahead.charAt(0));
        if (depth == 0 && between && (t.equals(a) || t.equals(b))) return i;
      }
      return -1;
    }

    int says(int part, Map<String, Integer> names) {
      int v = parts[part].of(names);
      return part == 0 ? cut(v, -99, 99) : part == 1 ? cut(v, 0, 99) : v != 0 ? 1 : 0;
    }
  }

  private static final class Sheet {
    int sort;
    int[] row;

    Sheet(int sort, int n) {
      this.sort = sort;
      row = new int[n];
    }
  }

  private static final class Model {
    House house = new House();
    House kept = null;
    final List<Text> texts = new ArrayList<>();
    final StringBuilder tape = new StringBuilder();
    final Sheet[] sheets = new Sheet[4];

    Model() {
      texts.add(new Text("turns cold ; costs cold * cold ; yells cold < 0 - 20 ;"));
    }

    long answer(Asked a) {
      try {
        return a.now();
      } catch (Refused r) {
        return r.answer;
      }
    }

    long answerOr(long refusal, Asked a) {
      try {
        return a.now();
      } catch (Refused r) {
        return refusal;
      }
    }

    int size() { return house.showers.size(); }
    Shower one(int x) { return house.showers.get(x); }
    void known(int x, long answer) { unless(in(x, 0, size() - 1), answer); }

    Day live(House h, int beats, int still) {
      int n = h.showers.size();
      Day d = new Day(n, beats);
      int[] set = h.showers.stream().mapToInt(s -> s.set).toArray();
      for (int t = 0; t < beats; t++) {
        for (int x = 0; x < n; x++) d.setBegins[x][t] = set[x];
        for (int x = 0; x < n; x++) {
          Shower s = h.showers.get(x);
          int higher = 0;
          for (int y = 0; y < n; y++) if (y != x && h.showers.get(y).on && set[y] > set[x]) higher++;
          d.felt[x][t] = cut(s.felt(d.setBegins[x][Math.max(t - s.late, 0)], higher, t), 0, 999);
        }
        for (int x = 0; x < n; x++) {
          Shower s = h.showers.get(x);
          if (s.on) {
            int cold = s.wanted - d.felt[x][t];
            Map<String, Integer> names = names(cold, t == 0 ? cold : s.wanted - d.felt[x][t - 1], set[x], t, s);
            Text law = texts.get(h.law);
            d.cost[x][t] = law.says(1, names);
            d.cries[x][t] = law.says(2, names) == 1;
            d.scalded[x][t] = d.felt[x][t] - s.wanted >= s.scalds();
            if (x != still) set[x] = cut(set[x] + s.turned(law.says(0, names) * s.haste / 8), 0, 999);
          }
          d.setEnds[x][t] = set[x];
        }
      }
      return d;
    }

    Map<String, Integer> names(int cold, int was, int set, int beat, Shower s) {
      Map<String, Integer> m = new HashMap<>();
      m.put("cold", cold);
      m.put("was", was);
      m.put("set", set);
      m.put("beat", beat);
      m.put("late", s.late);
      m.put("more", s.more);
      return m;
    }

    Day now() { return live(house, 30, -1); }
    Day were(House h) { return live(h, 30, -1); }

    long count(int what) {
      unless(in(what, 0, 4), -2);
      int on = 0;
      for (int x = 0; x < size(); x++) if (one(x).on) on |= 1 << x;
      return new int[] {size(), on, texts.size(), house.law, tape.length()}[what];
    }

    long feed(int n, int[] b) {
      unless(in(n, 1, 5) && Arrays.stream(b).allMatch(v -> in(v, 0, 255)), -2);
      unless(tape.length() + n <= 160, -4);
      for (int i = 0; i < n; i++) tape.append((char) b[i]);
      return tape.length();
    }

    long text() {
      unless(texts.size() < 6, -4);
      String t = tape.toString();
      tape.setLength(0);
      try {
        texts.add(new Text(t));
      } catch (Fault f) {
        return -100 - f.place;
      }
      return texts.size() - 1;
    }

    long force(int t) {
      unless(in(t, 0, texts.size() - 1), -2);
      int was = house.law;
      house.law = t;
      return was;
    }

    long asks(int part, int coldWas, int set, int beat, int x) {
      known(x, -1000);
      unless(in(part, 0, 2) && in(coldWas, 0, 3999999) && in(set, 0, 999) && in(beat, 0, 29), -2000);
      return texts.get(house.law).says(part, names(coldWas / 2000 - 1000, coldWas % 2000 - 1000, set, beat, one(x)));
    }

    long shower(int kindMore, int so, int warm) {
      unless(in(kindMore, 0, 59) && in(so, 0, 4) && in(warm, 0, 999), -2);
      unless(size() < 4, -4);
      Shower s = Shower.of(kindMore / 10);
      s.more = kindMore % 10;
      s.late = so;
      s.wanted = warm;
      house.showers.add(s);
      return size() - 1;
    }

    long set(int x, int what, int v) {
      known(x, -5);
      unless(in(what, 0, 4) && in(v, 0, new int[] {4, 999, 999, 16, 1}[what]), -7);
      long was = told(x, what);
      Shower s = one(x);
      if (what == 0) s.late = v;
      if (what == 1) s.wanted = v;
      if (what == 2) s.set = v;
      if (what == 3) s.haste = v;
      if (what == 4) s.on = v == 1;
      return was;
    }

    long told(int x, int what) {
      known(x, -5);
      unless(in(what, 0, 7), -7);
      Shower s = one(x);
      return new int[] {s.late, s.wanted, s.set, s.haste, s.on ? 1 : 0, s.kind(), s.more, s.scalds()}[what];
    }

    long at(int x, int beat, int what) {
      known(x, -100000);
      unless(in(beat, 0, 29) && in(what, 0, 2), -200000);
      Day d = now();
      return new int[] {d.felt[x][beat], d.setEnds[x][beat], one(x).wanted - d.felt[x][beat]}[what];
    }

    long day(int x, int what) {
      known(x, -5);
      unless(in(what, 0, 3), -7);
      Day d = now();
      return new int[] {d.cost(x), d.bits(d.cries[x]), Integer.bitCount(d.bits(d.scalded[x])), Arrays.stream(d.felt[x]).max().getAsInt()}[what];
    }

    long rests(int x, int near) {
      known(x, -5);
      unless(in(near, 0, 999), -7);
      return now().rests(x, one(x).wanted, near);
    }

    long sways(int x) {
      known(x, -5);
      int[] late = Arrays.copyOfRange(now().felt[x], 20, 30);
      Arrays.sort(late);
      return late[9] - late[0];
    }

    long house(int what) {
      unless(in(what, 0, 2), -2);
      Day d = now();
      if (what == 0) return d.cost();
      if (what == 1) return d.criers();
      int loudest = -1, most = 0;
      for (int t = 0; t < 30; t++) {
        int crying = 0;
        for (int x = 0; x < size(); x++) if (d.cries[x][t]) crying++;
        if (crying > most) {
          most = crying;
          loudest = t;
        }
      }
      return loudest;
    }

    long pass(int n) {
      unless(in(n, 0, 30), -2);
      Day d = live(house, n, -1);
      if (n > 0) for (int x = 0; x < size(); x++) one(x).set = d.setEnds[x][n - 1];
      return d.cost();
    }

    /** Of some choices the one by which least is least, of like ones the first, and that; null, if none is allowed. */
    int[] least(int choices, IntPredicate allowed, java.util.function.IntUnaryOperator cost) {
      int[] found = null;
      for (int c = 0; c < choices; c++) {
        if (!allowed.test(c)) continue;
        int v = cost.applyAsInt(c);
        if (found == null || v < found[1]) found = new int[] {c, v};
      }
      return found;
    }

    int byHaste(House h, int x, int haste, ToIntFunction<Day> asked) {
      House other = h.twin();
      other.showers.get(x).haste = haste;
      return asked.applyAsInt(were(other));
    }

    int[] best(House h, int x) {
      return least(17, c -> true, c -> byHaste(h, x, c, d -> d.cost(x)));
    }

    long best(int x, int what) {
      known(x, -5);
      unless(in(what, 0, 1), -7);
      return best(house, x)[what];
    }

    int restsBy(int x, int near, int haste) {
      return byHaste(house, x, haste, d -> d.rests(x, one(x).wanted, near));
    }

    long line(int x, int near) {
      known(x, -5);
      unless(in(near, 0, 999), -7);
      int greatest = -1;
      for (int h = 0; h <= 16; h++) if (restsBy(x, near, h) >= 0) greatest = h;
      return greatest;
    }

    long soon(int x, int near, int what) {
      known(x, -5);
      unless(in(near, 0, 999) && in(what, 0, 1), -7);
      int[] found = least(17, h -> restsBy(x, near, h) >= 0, h -> restsBy(x, near, h));
      return found == null ? -1 : found[what];
    }

    long card(int what) {
      unless(in(what, 0, 1), -2);
      return least(17, c -> true, c -> {
        House h = house.twin();
        for (Shower s : h.showers) s.haste = c;
        return were(h).cost();
      })[what];
    }

    long even(int x, int y, int what) {
      unless(in(x, 0, size() - 1) && in(y, 0, size() - 1) && x != y, -5);
      unless(in(what, 0, 1), -7);
      House h = house.twin();
      List<Boolean> changed = new ArrayList<>();
      for (int turn = 0; turn < 20; turn++) {
        int who = turn % 2 == 0 ? x : y;
        int haste = best(h, who)[0];
        changed.add(haste != h.showers.get(who).haste);
        h.showers.get(who).haste = haste;
        if (turn > 0 && !changed.get(turn) && !changed.get(turn - 1)) {
          int turns = (int) changed.stream().filter(c -> c).count();
          return what == 0 ? turns : h.showers.get(x).haste * 100 + h.showers.get(y).haste;
        }
      }
      return -1;
    }

    House without(int x) {
      House h = house.twin();
      h.showers.get(x).on = false;
      return h;
    }

    long hurts(int x, int y) {
      unless(in(x, 0, size() - 1) && in(y, 0, size() - 1) && x != y, -100000);
      return now().cost(y) - were(without(x)).cost(y);
    }

    long off(int what) {
      unless(in(what, 0, 1), -2);
      int[] found = least(size(), x -> one(x).on, x -> were(without(x)).cost());
      return found == null ? -1 : found[what];
    }

    long stills(int x) {
      known(x, -100000);
      Day still = live(house, 30, x), now = now();
      return still.cost() - still.cost(x) - now.cost() + now.cost(x);
    }

    long leave(int x, int what) {
      known(x, -5);
      unless(in(what, 0, 1), -7);
      int[] found = least(100, c -> true, c -> {
        House h = house.twin();
        h.showers.get(x).set = 10 * c;
        return live(h, 30, x).cost(x);
      });
      return what == 0 ? 10 * found[0] : found[1];
    }

    Sheet told(int s) {
      unless(in(s, 0, 3), -2);
      unless(sheets[s] != null, -11);
      unless(sheets[s].row.length <= 30, -2);
      return sheets[s];
    }

    int otherwise(Day d, Sheet s, int x) {
      return Arrays.mismatch(Arrays.copyOf(d.felt[x], s.row.length), s.row);
    }

    long judge(int s, int x) {
      Sheet sheet = told(s);
      known(x, -5);
      return otherwise(now(), sheet, x);
    }

    long whose(int s) {
      Sheet sheet = told(s);
      int bits = 0;
      for (int x = 0; x < size(); x++) if (otherwise(now(), sheet, x) == -1) bits |= 1 << x;
      return bits;
    }

    private interface Change {
      void at(House h, int v);
    }

    int bits(Sheet sheet, int x, int choices, Change change) {
      int bits = 0;
      for (int v = 0; v < choices; v++) {
        House h = house.twin();
        change.at(h, v);
        if (otherwise(were(h), sheet, x) == -1) bits |= 1 << v;
      }
      return bits;
    }

    long fits(int s, int x, int sort) {
      Sheet sheet = told(s);
      known(x, -5);
      unless(in(sort, 0, 1), -7);
      if (sort == 0) return bits(sheet, x, 5, (h, v) -> h.showers.get(x).late = v);
      return bits(sheet, x, 17, (h, v) -> h.showers.get(x).haste = v);
    }

    long kinds(int s, int x, int sort) {
      Sheet sheet = told(s);
      known(x, -5);
      unless(in(sort, 0, 1), -7);
      if (sort == 0) return bits(sheet, x, 6, (h, v) -> h.showers.set(x, h.showers.get(x).as(Shower.of(v))));
      return bits(sheet, x, 10, (h, v) -> h.showers.get(x).more = v);
    }

    long laws(int s, int x) {
      Sheet sheet = told(s);
      known(x, -5);
      return bits(sheet, x, texts.size(), (h, v) -> h.law = v);
    }

    long film(int s, int x, int n) {
      unless(in(s, 0, 3), -2);
      known(x, -5);
      unless(in(n, 0, 30), -7);
      sheets[s] = new Sheet(2, n);
      sheets[s].row = Arrays.copyOf(now().felt[x], n);
      return n;
    }

    long criers(int s) {
      Sheet sheet = told(s);
      Day d = now();
      int bits = 0;
      for (int x = 0; x < size(); x++) {
        int who = x;
        if (Arrays.stream(sheet.row).allMatch(t -> in(t, 0, 29) && d.cries[who][t])) bits |= 1 << x;
      }
      return bits;
    }

    long heard(int s, int x) {
      Sheet sheet = told(s);
      known(x, -5);
      boolean[] beats = new boolean[30];
      for (int t : sheet.row) if (in(t, 0, 29)) beats[t] = true;
      int bits = 0;
      for (int late = 0; late < 5; late++) {
        House h = house.twin();
        h.showers.get(x).late = late;
        if (Arrays.equals(were(h).cries[x], beats)) bits |= 1 << late;
      }
      return bits;
    }

    Day byLot(int seed) {
      House h = house.twin();
      java.math.BigInteger m = java.math.BigInteger.valueOf(2147483647L), by = java.math.BigInteger.valueOf(48271);
      java.math.BigInteger lot = java.math.BigInteger.valueOf(seed + 1L);
      for (Shower s : h.showers) {
        lot = lot.multiply(by).mod(m);
        s.set = lot.intValue() % 1000;
      }
      return were(h);
    }

    long drawn(int seed, int what) {
      unless(in(seed, 0, 99999) && in(what, 0, 1), -2);
      Day d = byLot(seed);
      return what == 0 ? d.cost() : d.criers();
    }

    long odds(int seed, int seeds, int near, int part) {
      unless(in(seed, 0, 99999) && in(seeds, 1, 30) && in(near, 0, 999) && in(part, 0, 1), 0);
      int all = 0;
      for (int k = 0; k < seeds; k++) {
        Day d = byLot(seed + k);
        boolean rest = true;
        for (int x = 0; x < size(); x++) rest &= !one(x).on || d.rests(x, one(x).wanted, near) >= 0;
        if (rest) all++;
      }
      int a = all, b = seeds;
      while (b != 0) {
        int r = a % b;
        a = b;
        b = r;
      }
      return (part == 0 ? all : seeds) / a;
    }

    long image() {
      kept = house.twin();
      return size();
    }

    long back() {
      unless(kept != null, -3);
      house = kept.twin();
      return size();
    }

    long sheet(int s, int sort, int n) {
      unless(in(s, 0, 3) && in(sort, -1, 2) && (sort == -1 || n <= 40), -2);
      unless(sort == -1 || n >= 0, -14);
      sheets[s] = sort == -1 ? null : new Sheet(sort, n);
      return 1;
    }

    long cell(int s, int i, int v) {
      unless(in(s, 0, 3), -2);
      unless(sheets[s] != null, -11);
      unless(in(i, 0, sheets[s].row.length - 1), -12);
      sheets[s].row[i] = sheets[s].sort == 0 ? v << 24 >> 24 : sheets[s].sort == 1 ? v << 16 >> 16 : v;
      return 1;
    }

    long copy(int s, int i, int other, int j, int n) {
      unless(in(s, 0, 3) && in(other, 0, 3), -2);
      unless(sheets[s] != null && sheets[other] != null, -11);
      unless(sheets[s].sort == sheets[other].sort, -13);
      int[] from = sheets[s].row.clone(), to = sheets[other].row;
      unless(n >= 0 && i >= 0 && j >= 0 && (long) i + n <= from.length && (long) j + n <= to.length, -12);
      for (int k = 0; k < n; k++) to[j + k] = from[i + k];
      return n;
    }

    long showersBy(int s, int sort, int at, int n) {
      unless(in(s, 0, 3) && in(sort, 0, 2) && in(n, 0, 4), -2);
      unless(sheets[s] != null, -11);
      unless(sheets[s].sort == sort, -13);
      int came = 0;
      int[] row = sheets[s].row;
      for (long p = at; p < (long) at + 3L * n; p += 3) {
        unless(p >= 0 && p + 2 < row.length, -12);
        int i = (int) p;
        if (answer(() -> shower(row[i], row[i + 1], row[i + 2])) >= 0) came++;
      }
      return came;
    }

    long taken(int i, int kind) {
      unless(in(kind, 0, 6), -2);
      unless(in(i, 0, 7), -12);
      int x = i % 4;
      unless(x < size() && (i < 4 || one(x).on), -11);
      unless(i < 4 == kind < 6, -13);
      if (kind == 6) return one(x).set;
      unless(Shower.of(kind).getClass().isInstance(one(x)), -13);
      return x;
    }
  }
}
