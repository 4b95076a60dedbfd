import java.util.ArrayList;
import java.util.List;
import java.util.TreeSet;
import java.util.regex.Matcher;
import java.util.regex.Pattern;

/**
 * The document once more, told by plain going through all there is and with the Java library:
 * what NineLasts answers is compared with it. It is slow and makes many objects on purpose.
 */
final class PlainModel {
  static final int NONE = -1;
  static final int BAD = -2, OTHER = -3, NOTHING = -4, STUCK = -5, FULL = -6;

  record Foot(int l, int b, int h, int times, int give) {
    int m(int i) { return i == 0 ? l : i == 1 ? b : h; }
  }

  record Last(int l, int b, int h, int price) {
    int m(int i) { return i == 0 ? l : i == 1 ? b : h; }
  }

  static final class Vale {
    List<Foot> feet = new ArrayList<>();
    List<Last> lasts = new ArrayList<>();
    int[] waste = {1, 1, 1};
    int[] over = {9, 9, 9};
    int out = 50;
    int grow = 1;

    Vale twin() {
      Vale v = new Vale();
      v.feet.addAll(feet);
      v.lasts.addAll(lasts);
      v.waste = waste.clone();
      v.over = over.clone();
      v.out = out;
      v.grow = grow;
      return v;
    }

    Vale without(int foot) {
      Vale v = twin();
      v.feet.remove(foot);
      return v;
    }

    int badness(Last last, Foot foot) {
      int sum = 0;
      for (int i = 0; i < 3; i++) {
        int low = foot.m(i) - foot.give();
        int high = foot.m(i) + over[i];
        if (last.m(i) < low || last.m(i) > high) return NONE;
        sum += waste[i] * Math.max(0, last.m(i) - foot.m(i));
      }
      return sum;
    }

    int own(Foot foot, int set) {
      int own = NONE;
      for (int i = lasts.size() - 1; i >= 0; i--) {
        if ((set >> i & 1) == 0 || badness(lasts.get(i), foot) == NONE) continue;
        if (own == NONE || badness(lasts.get(i), foot) <= badness(lasts.get(own), foot)) own = i;
      }
      return own;
    }

    int cost(Foot foot, int set) {
      int own = own(foot, set);
      return foot.times() * (own == NONE ? out : badness(lasts.get(own), foot));
    }

    int prices(int set) {
      int sum = 0;
      for (int i = 0; i < lasts.size(); i++) sum += (set >> i & 1) * lasts.get(i).price();
      return sum;
    }

    int total(int set) {
      int sum = prices(set);
      for (Foot f : feet) sum += cost(f, set);
      return sum;
    }

    int sets() { return 1 << lasts.size(); }

    int best(int n) {
      int best = 0;
      for (int set = 0; set < sets(); set++)
        if (Integer.bitCount(set) <= n && total(set) < total(best)) best = set;
      return best;
    }

    int greatest(int set) {
      int g = 0;
      for (Foot f : feet) g = Math.max(g, badness(lasts.get(own(f, set)), f));
      return g;
    }

    int outTimes(int set) {
      int sum = 0;
      for (Foot f : feet) if (own(f, set) == NONE) sum += f.times();
      return sum;
    }

    int fair(int n) {
      int best = NONE;
      for (int set = sets() - 1; set >= 0; set--) {
        if (Integer.bitCount(set) > n || outTimes(set) > 0) continue;
        if (best == NONE || greatest(set) < greatest(best)
            || greatest(set) == greatest(best) && total(set) <= total(best)) best = set;
      }
      return best;
    }

    int shod(int n) {
      int best = 0;
      for (int set = 0; set < sets(); set++) {
        if (Integer.bitCount(set) > n) continue;
        if (outTimes(set) < outTimes(best)
            || outTimes(set) == outTimes(best) && total(set) < total(best)) best = set;
      }
      return best;
    }

    int changed(int set) {
      while (true) {
        int to = set;
        for (int o = 0; o < lasts.size(); o++)
          for (int i = 0; i < lasts.size(); i++) {
            if ((set >> o & 1) == 0 || (set >> i & 1) == 1) continue;
            int then = set & ~(1 << o) | 1 << i;
            if (total(then) < total(to)) to = then;
          }
        if (to == set) return set;
        set = to;
      }
    }

    int doubt(int n) {
      int sum = 0;
      int all = best(n);
      for (int f = 0; f < feet.size(); f++)
        sum += Math.max(0, cost(feet.get(f), without(f).best(n)) - cost(feet.get(f), all));
      return sum;
    }

    List<Integer> sizes(int measure) {
      TreeSet<Integer> s = new TreeSet<>();
      for (Foot f : feet) s.add(f.m(measure));
      return new ArrayList<>(s);
    }

    /** The sum, then the SIZES. */
    List<Integer> line(int measure, int n) {
      List<Integer> all = sizes(measure);
      List<Integer> best = null;
      for (int pick = 1; pick < 1 << all.size(); pick++) {
        if ((pick >> all.size() - 1 & 1) == 0 || Integer.bitCount(pick) > n) continue;
        List<Integer> told = new ArrayList<>();
        told.add(0);
        for (int i = 0; i < all.size(); i++) if ((pick >> i & 1) == 1) told.add(all.get(i));
        int sum = 0;
        for (Foot f : feet)
          for (int i = 1; i < told.size(); i++)
            if (told.get(i) >= f.m(measure)) {
              sum += f.times() * waste[measure] * (told.get(i) - f.m(measure));
              break;
            }
        told.set(0, sum);
        if (best == null || before(told, best)) best = told;
      }
      return best;
    }

    static boolean before(List<Integer> a, List<Integer> b) {
      if (!a.get(0).equals(b.get(0))) return a.get(0) < b.get(0);
      if (a.size() != b.size()) return a.size() < b.size();
      for (int i = 1; i < a.size(); i++) if (!a.get(i).equals(b.get(i))) return a.get(i) < b.get(i);
      return false;
    }

    /** Number, TOTAL, L, B, H of the CORNER. */
    int[] corner() {
      int[] best = null;
      int number = 0;
      for (int l : sizes(0))
        for (int b : sizes(1))
          for (int h : sizes(2)) {
            Vale v = twin();
            v.lasts.clear();
            v.lasts.add(new Last(l, b, h, 0));
            if (best == null || v.total(1) < best[1]) best = new int[] {number, v.total(1), l, b, h};
            number++;
          }
      return best;
    }

    Foot grown(Foot f) {
      return new Foot(Math.min(30, f.l() + grow), f.b(), f.h(), f.times(), f.give());
    }
  }

  static final class Going {
    Vale vale;
    int number, n, next, best = NONE;
    Going twin() {
      Going g = new Going();
      g.vale = vale.twin();
      g.number = number;
      g.n = n;
      g.next = next;
      g.best = best;
      return g;
    }
  }

  /** A shelf's thing: sort 0 to 4 with elements, or 10 and the kind with last and a. */
  record Thing(int code, long[] elements, int last, int a) { }

  List<Vale> vales = new ArrayList<>();
  Going going = null;
  List<Vale> keptVales = null;
  Going keptGoing = null;
  Thing[] shelves = new Thing[8];
  StringBuilder tape = new StringBuilder();
  int[] refusals = new int[5];

  private int no(int code) { refusals[-2 - code]++; return code; }
  private boolean in(long x, long a, long b) { return x >= a && x <= b; }
  private boolean shelf(int s) { return in(s, 0, 7); }
  private boolean vale(int v) { return in(v, 0, vales.size() - 1); }
  private boolean foot(int v, int f) { return vale(v) && in(f, 0, vales.get(v).feet.size() - 1); }
  private boolean last(int v, int l) { return vale(v) && in(l, 0, vales.get(v).lasts.size() - 1); }
  private boolean aSet(int v, int set) { return vale(v) && in(set, 0, vales.get(v).sets() - 1); }

  int row(int s, int sort, int n) {
    if (!shelf(s) || !in(sort, 0, 4) || !in(n, 0, 40)) return no(BAD);
    shelves[s] = new Thing(sort, new long[n], 0, 0);
    return 1;
  }

  private int rowNo(int s) {
    if (shelves[s] == null) return NOTHING;
    return shelves[s].code() >= 10 ? OTHER : 0;
  }

  int set(int s, int i, long v) {
    if (!shelf(s)) return no(BAD);
    if (rowNo(s) != 0) return no(rowNo(s));
    Thing t = shelves[s];
    if (!in(i, 0, t.elements().length - 1)) return no(BAD);
    t.elements()[i] = switch (t.code()) {
      case 0 -> (long) (byte) v;
      case 1 -> (long) (short) v;
      case 2 -> (long) (int) v;
      case 3 -> v;
      default -> v == 0 ? 0L : 1L;
    };
    return 1;
  }

  int copy(int p, int q, int i, int j, int n) {
    if (!shelf(p) || !shelf(q)) return no(BAD);
    Thing a = shelves[p], b = shelves[q];
    if (a != null && a.code() >= 10 || b != null && b.code() >= 10) return no(OTHER);
    if (a != null && b != null && a.code() != b.code()) return no(OTHER);
    if (a == null || b == null) return no(NOTHING);
    if (n < 0 || i < 0 || j < 0 || (long) i + n > a.elements().length || (long) j + n > b.elements().length)
      return no(BAD);
    long[] was = a.elements().clone();
    for (int k = 0; k < n; k++) b.elements()[j + k] = was[i + k];
    return n;
  }

  long element(int s, int i) {
    if (!shelf(s) || rowNo(s) != 0 || !in(i, 0, shelves[s].elements().length - 1)) return 0;
    return shelves[s].elements()[i];
  }

  int holds(int s) { return !shelf(s) || shelves[s] == null ? NONE : shelves[s].code(); }

  int tool(int s, int kind, int last, int a) {
    if (!shelf(s) || !in(kind, 1, 5) || !in(last, 0, 9) || !in(a, 0, 30)) return no(BAD);
    shelves[s] = new Thing(10 + kind, null, last, a);
    return 1;
  }

  int says(int s, int kind) {
    if (!shelf(s) || !in(kind, 0, 5)) return no(BAD);
    Thing t = shelves[s];
    if (t == null) return no(NOTHING);
    if (t.code() < 10) return no(OTHER);
    int its = t.code() - 10;
    if (kind == 0) return t.last();
    if (kind == 1) {
      return switch (its) { case 1 -> 1; case 2 -> 2; case 4 -> 3; case 5 -> 4; default -> no(OTHER); };
    }
    return kind == its ? t.a() : no(OTHER);
  }

  private int toolNo(int v, int s) {
    if (shelves[s] == null) return NOTHING;
    if (shelves[s].code() < 10) return OTHER;
    return shelves[s].last() < vales.get(v).lasts.size() ? 0 : STUCK;
  }

  private int tried(Vale v, int f, Thing t) {
    Foot foot = v.feet.get(f);
    Last last = v.lasts.get(t.last());
    int plain = v.badness(last, foot);
    int a = t.a();
    switch (t.code()) {
      case 12: {
        int b = v.badness(new Last(last.l() + a, last.b() + a, last.h() + a, 0), foot);
        return b == NONE ? NONE : b + a / 2;
      }
      case 13: return f == a ? 0 : NONE;
      case 14:
        if (plain == NONE) return NONE;
        return a % 2 == 1 && last.l() > foot.l() + 1 ? NONE : plain + plain;
      case 15: {
        int more = v.grow * a;
        return v.badness(last, new Foot(foot.l() + more, foot.b() + more / 2, foot.h(), foot.times(), foot.give()));
      }
      default: return plain;
    }
  }

  int tries(int v, int f, int s) {
    if (!foot(v, f) || !shelf(s)) return no(BAD);
    if (toolNo(v, s) != 0) return no(toolNo(v, s));
    return tried(vales.get(v), f, shelves[s]);
  }

  int shoes(int v, int s) {
    if (!vale(v) || !shelf(s)) return no(BAD);
    if (toolNo(v, s) != 0) return no(toolNo(v, s));
    int bits = 0;
    for (int f = 0; f < vales.get(v).feet.size(); f++)
      if (tried(vales.get(v), f, shelves[s]) >= 0) bits += 1 << f;
    return bits;
  }

  int feed(int v, int n) {
    if (!in(n, 1, 4)) return no(BAD);
    if (tape.length() + n > 250) return no(FULL);
    for (int i = n; i > 0; i--) tape.append((char) (v >> 8 * (i - 1) & 0xff));
    return tape.length();
  }

  int wipe() {
    int was = tape.length();
    tape = new StringBuilder();
    return was;
  }

  /** The told texts of all tokens but blanks, with their places; the end is a token "" at the tape's size. */
  private static final class Telling {
    final List<String> texts = new ArrayList<>();
    final List<Integer> places = new ArrayList<>();
    int at = 0;

    Telling(String tape) {
      Matcher m = Pattern.compile("[a-z]+|[0-9]+|[^ ]", Pattern.DOTALL).matcher(tape);
      while (m.find()) {
        texts.add(m.group());
        places.add(m.start());
      }
      texts.add("");
      places.add(tape.length());
    }

    boolean take(String word) {
      if (!texts.get(at).equals(word)) return false;
      at++;
      return true;
    }

    int number(int low, int high) throws Fault {
      String t = texts.get(at);
      if (!t.matches("[0-9]{1,2}") || Integer.parseInt(t) < low || Integer.parseInt(t) > high) throw fault();
      at++;
      return Integer.parseInt(t);
    }

    Fault fault() { return new Fault(places.get(at)); }
  }

  private static final class Fault extends Exception {
    private static final long serialVersionUID = 1L;
    final int place;
    Fault(int place) { this.place = place; }
  }

  private static void statement(Telling t, Vale v) throws Fault {
    if (t.texts.get(t.at).equals("foot") && v.feet.size() < 12) {
      t.at++;
      int l = t.number(0, 30), b = t.number(0, 30), h = t.number(0, 30);
      int times = t.take("times") ? t.number(1, 99) : 1;
      int give = t.take("give") ? t.number(0, 9) : 0;
      v.feet.add(new Foot(l, b, h, times, give));
    } else if (t.texts.get(t.at).equals("last") && v.lasts.size() < 10) {
      t.at++;
      int l = t.number(0, 40), b = t.number(0, 40), h = t.number(0, 40);
      v.lasts.add(new Last(l, b, h, t.take("price") ? t.number(0, 99) : 0));
    } else if (t.take("waste")) {
      v.waste = new int[] {t.number(0, 9), t.number(0, 9), t.number(0, 9)};
    } else if (t.take("over")) {
      v.over = new int[] {t.number(0, 30), t.number(0, 30), t.number(0, 30)};
    } else if (t.take("out")) {
      v.out = t.number(0, 99);
    } else if (t.take("grow")) {
      v.grow = t.number(0, 9);
    } else {
      throw t.fault();
    }
  }

  int valley() {
    if (vales.size() == 4) return no(FULL);
    Telling t = new Telling(tape.toString());
    wipe();
    Vale v = new Vale();
    try {
      do statement(t, v); while (t.take(";"));
      if (t.at != t.texts.size() - 1) throw t.fault();
    } catch (Fault f) {
      no(BAD);
      return -20 - f.place;
    }
    vales.add(v);
    return vales.size() - 1;
  }

  int valleyOf(int v, int what) {
    if (!vale(v) || !in(what, 0, 10)) return no(BAD);
    Vale x = vales.get(v);
    int times = x.feet.stream().mapToInt(Foot::times).sum();
    return new int[] {x.feet.size(), x.lasts.size(), times, x.out, x.grow,
      x.waste[0], x.waste[1], x.waste[2], x.over[0], x.over[1], x.over[2]}[what];
  }

  int footOf(int v, int f, int what) {
    if (!foot(v, f) || !in(what, 0, 4)) return no(BAD);
    Foot x = vales.get(v).feet.get(f);
    return new int[] {x.l(), x.b(), x.h(), x.times(), x.give()}[what];
  }

  int lastOf(int v, int l, int what) {
    if (!last(v, l) || !in(what, 0, 3)) return no(BAD);
    Last x = vales.get(v).lasts.get(l);
    return new int[] {x.l(), x.b(), x.h(), x.price()}[what];
  }

  int feet(int v, int s) {
    if (!vale(v) || !shelf(s)) return no(BAD);
    if (rowNo(s) != 0) return no(rowNo(s));
    long[] e = shelves[s].elements();
    int came = 0;
    while (4 * came + 4 <= e.length && vales.get(v).feet.size() < 12) {
      long l = e[4 * came], b = e[4 * came + 1], h = e[4 * came + 2], times = e[4 * came + 3];
      if (!in(l, 0, 30) || !in(b, 0, 30) || !in(h, 0, 30) || !in(times, 1, 99)) break;
      vales.get(v).feet.add(new Foot((int) l, (int) b, (int) h, (int) times, 0));
      came++;
    }
    return came;
  }

  int alter(int v, int f, int what, int x) {
    if (!foot(v, f) || !in(what, 0, 1) || (what == 0 ? !in(x, 1, 99) : !in(x, 0, 9))) return no(BAD);
    Foot was = vales.get(v).feet.get(f);
    vales.get(v).feet.set(f, new Foot(was.l(), was.b(), was.h(),
        what == 0 ? x : was.times(), what == 1 ? x : was.give()));
    return what == 0 ? was.times() : was.give();
  }

  int carve(int v, int l, int what, int x) {
    if (!last(v, l) || !in(what, 0, 3) || !in(x, 0, what == 3 ? 99 : 40)) return no(BAD);
    Last was = vales.get(v).lasts.get(l);
    int[] parts = {was.l(), was.b(), was.h(), was.price()};
    int before = parts[what];
    parts[what] = x;
    vales.get(v).lasts.set(l, new Last(parts[0], parts[1], parts[2], parts[3]));
    return before;
  }

  int build(int v, int l, int a) {
    if (!last(v, l) || !in(a, 1, 9)) return no(BAD);
    Vale x = vales.get(v);
    Last i = x.lasts.get(l);
    if (Math.max(i.l(), Math.max(i.b(), i.h())) + a > 40) return no(STUCK);
    if (x.lasts.size() == 10) return no(FULL);
    x.lasts.add(new Last(i.l() + a, i.b() + a, i.h() + a, Math.min(99, i.price() + a)));
    return x.lasts.size() - 1;
  }

  int year(int v) {
    if (!vale(v)) return no(BAD);
    int grew = 0;
    List<Foot> feet = vales.get(v).feet;
    for (int f = 0; f < feet.size(); f++) {
      Foot then = vales.get(v).grown(feet.get(f));
      if (then.l() != feet.get(f).l()) grew++;
      feet.set(f, then);
    }
    return grew;
  }

  int does(int v, int l, int f) {
    int b = bad(v, l, f);
    return b == BAD ? BAD : b == NONE ? 0 : 1;
  }

  int bad(int v, int l, int f) {
    if (!last(v, l) || !foot(v, f)) return no(BAD);
    return vales.get(v).badness(vales.get(v).lasts.get(l), vales.get(v).feet.get(f));
  }

  int whose(int v, int f, int set) {
    if (!foot(v, f) || !aSet(v, set)) return no(BAD);
    return vales.get(v).own(vales.get(v).feet.get(f), set);
  }

  int total(int v, int set) { return aSet(v, set) ? vales.get(v).total(set) : no(BAD); }

  int out(int v, int set) {
    if (!aSet(v, set)) return no(BAD);
    int bits = 0;
    for (int f = 0; f < vales.get(v).feet.size(); f++)
      if (vales.get(v).own(vales.get(v).feet.get(f), set) == NONE) bits |= 1 << f;
    return bits;
  }

  int judge(int v, int set, int s) {
    if (!aSet(v, set) || !shelf(s)) return no(BAD);
    if (rowNo(s) != 0) return no(rowNo(s));
    Vale x = vales.get(v);
    long[] e = shelves[s].elements();
    for (int f = 0; f < x.feet.size(); f++) {
      long told = f < e.length && in(e[f], 0, x.lasts.size() - 1) ? e[f] : NONE;
      if (told != x.own(x.feet.get(f), set)) return f;
    }
    return NONE;
  }

  private boolean ask(int v, int n) { return vale(v) && in(n, 0, 10); }
  int best(int v, int n) { return ask(v, n) ? vales.get(v).best(n) : no(BAD); }
  private int bestTotal(Vale v, int n) { return v.total(v.best(n)); }

  int more(int v, int n) {
    if (!ask(v, n) || n == 10) return no(BAD);
    return bestTotal(vales.get(v), n) - bestTotal(vales.get(v), n + 1);
  }

  int enough(int v, int x) {
    if (!vale(v) || x < 0) return no(BAD);
    for (int n = 0; n <= 10; n++) if (bestTotal(vales.get(v), n) <= x) return n;
    return NONE;
  }

  int changed(int v, int set) { return aSet(v, set) ? vales.get(v).changed(set) : no(BAD); }

  int bound(int v) {
    if (!vale(v)) return no(BAD);
    int sum = 0;
    Vale x = vales.get(v);
    for (Foot f : x.feet) {
      int least = x.out;
      for (Last l : x.lasts) if (x.badness(l, f) != NONE) least = Math.min(least, x.badness(l, f));
      sum += f.times() * least;
    }
    return sum;
  }

  int fair(int v, int n) { return ask(v, n) ? vales.get(v).fair(n) : no(BAD); }
  int shod(int v, int n) { return ask(v, n) ? vales.get(v).shod(n) : no(BAD); }

  int line(int v, int measure, int n, int what) {
    if (!vale(v) || !in(measure, 0, 2) || !in(n, 1, 6) || vales.get(v).feet.isEmpty()) return no(BAD);
    List<Integer> told = vales.get(v).line(measure, n);
    if (what == 0) return told.get(0);
    if (what == 1) return told.size() - 1;
    return in(what, 10, 10 + told.size() - 2) ? told.get(what - 10 + 1) : no(BAD);
  }

  int corners(int v) {
    if (!vale(v)) return no(BAD);
    Vale x = vales.get(v);
    return x.sizes(0).size() * x.sizes(1).size() * x.sizes(2).size();
  }

  int corner(int v, int what) {
    if (!vale(v) || !in(what, 0, 4) || vales.get(v).feet.isEmpty()) return no(BAD);
    return vales.get(v).corner()[what];
  }

  int keeps(int v, int f, int n) {
    if (!foot(v, f) || !in(n, 1, 9)) return no(BAD);
    Vale x = vales.get(v);
    int bits = x.sets() - 1;
    Foot foot = x.feet.get(f);
    for (int y = 0; y <= n; y++) {
      for (int l = 0; l < x.lasts.size(); l++)
        if (x.badness(x.lasts.get(l), foot) == NONE) bits &= ~(1 << l);
      foot = x.grown(foot);
    }
    return bits;
  }

  private static int lent(Vale home, int set, Vale far, int farSet) {
    Vale both = home.twin();
    both.lasts.addAll(far.lasts);
    int sum = 0;
    for (Foot f : home.feet) sum += both.cost(f, set | farSet << home.lasts.size());
    return sum;
  }

  int lend(int v, int w, int set, int otherSet) {
    if (v == w || !aSet(v, set) || !aSet(w, otherSet)) return no(BAD);
    Vale a = vales.get(v), b = vales.get(w);
    return a.prices(set) + b.prices(otherSet) + lent(a, set, b, otherSet) + lent(b, otherSet, a, set);
  }

  int doubt(int v, int n) { return ask(v, n) ? vales.get(v).doubt(n) : no(BAD); }

  int idle(int v) {
    if (!vale(v)) return no(BAD);
    int used = 0;
    for (int n = 0; n <= 10; n++) used |= vales.get(v).best(n);
    for (int l = 0; l < vales.get(v).lasts.size(); l++) if ((used >> l & 1) == 0) return l;
    return NONE;
  }

  int begin(int v, int n) {
    if (!ask(v, n)) return no(BAD);
    going = new Going();
    going.vale = vales.get(v).twin();
    going.number = v;
    going.n = n;
    return going.vale.sets();
  }

  int step(int k) {
    if (!in(k, 1, 999)) return no(BAD);
    if (going == null || going.next == going.vale.sets()) return no(STUCK);
    Going g = going;
    while (k-- > 0 && g.next < g.vale.sets()) {
      if (Integer.bitCount(g.next) <= g.n
          && (g.best == NONE || g.vale.total(g.next) < g.vale.total(g.best))) g.best = g.next;
      g.next++;
    }
    return g.best == NONE ? NONE : g.vale.total(g.best);
  }

  int search(int what) {
    if (!in(what, 0, 4)) return no(BAD);
    if (going == null) return no(STUCK);
    int done = going.next == going.vale.sets() ? 1 : 0;
    return new int[] {going.number, going.n, going.next, going.best, done}[what];
  }

  private static List<Vale> twins(List<Vale> list) {
    List<Vale> twins = new ArrayList<>();
    for (Vale v : list) twins.add(v.twin());
    return twins;
  }

  int image() {
    keptVales = twins(vales);
    keptGoing = going == null ? null : going.twin();
    return 1;
  }

  int back() {
    if (keptVales == null) return no(STUCK);
    vales = twins(keptVales);
    going = keptGoing == null ? null : keptGoing.twin();
    return 1;
  }

  int status(int what) {
    if (what == 0) return vales.size();
    if (what == 1) return tape.length();
    if (what == 2) {
      int used = 0;
      for (Thing t : shelves) if (t != null) used++;
      return used;
    }
    return in(what, 12, 16) ? refusals[what - 12] : NONE;
  }
}
