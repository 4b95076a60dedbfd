import java.util.ArrayList;
import java.util.List;
import java.util.Random;

/** Runs of calls drawn with a fixed seed: NineLasts and the plain model must answer alike. */
public final class ModelTest {
  private static final int[] ODD = {-1, -2, 0, 1, 8, 10, 11, 12, 31, 40, 41, 99, 100, 999, 1000, 1023, 1024,
    Integer.MAX_VALUE, Integer.MIN_VALUE, Integer.MAX_VALUE - 3};

  private final Random random;
  private final NineLasts x = new NineLasts();
  private final PlainModel m = new PlainModel();
  private final List<String> told = new ArrayList<>();
  private int wrong = 0;

  private ModelTest(long seed) { random = new Random(seed); }

  private int below(int n) { return random.nextInt(n); }
  private boolean seldom() { return below(25) == 0; }
  private int odd() { return ODD[below(ODD.length)]; }
  private int near(int low, int high) { return seldom() ? odd() : low + below(high - low + 1); }

  private void same(String call, long got, long want) {
    told.add(call + " -> " + got);
    if (got != want) {
      wrong++;
      System.out.println(String.join("\n", told.subList(Math.max(0, told.size() - 12), told.size())));
      System.out.println("  the model answers " + want);
    }
  }

  private void feed(String text) {
    for (int i = 0; i < text.length(); ) {
      int n = Math.min(1 + below(4), text.length() - i);
      int v = below(2) == 0 ? 0 : -1;
      for (int k = 0; k < n; k++) v = v << 8 | text.charAt(i + k);
      same("feed(" + v + ", " + n + ")", x.feed(v, n), m.feed(v, n));
      i += n;
    }
  }

  private String blanks() { return " ".repeat(1 + below(15) / 14); }
  private int measure(int mid, int spread) { return Math.max(0, Math.min(30, mid + below(2 * spread + 1) - spread)); }

  private String three(int mid, int spread) {
    return blanks() + measure(mid, spread) + blanks() + measure(mid, spread) + blanks() + measure(mid, spread);
  }

  private String statement(int mid, int spread) {
    switch (below(14)) {
      case 0: return "waste " + below(3) + " " + below(3) + " " + below(10);
      case 1: return "over " + below(8) + " " + below(12) + " " + below(31);
      case 2: return "out " + below(100);
      case 3: return "grow " + below(10);
      case 4: case 5: case 6: case 7:
        return "foot" + three(mid, spread) + (below(2) == 0 ? " times " + (1 + below(9)) : "")
            + (below(2) == 0 ? " give " + below(5) : "");
      default: return "last" + three(mid + spread, spread) + (below(2) == 0 ? " price " + below(12) : "");
    }
  }

  private String tapeText() {
    StringBuilder text = new StringBuilder();
    int mid = 3 + below(25);
    int spread = 1 + below(6);
    int statements = 1 + below(20);
    if (below(4) == 0) return "waste 1 2 0;" + crowd(mid);
    for (int i = 0; i < statements; i++) {
      if (i > 0) text.append(';');
      text.append(statement(mid, spread));
    }
    if (below(3) == 0) spoil(text);
    return text.length() > 250 ? text.substring(0, 250) : text.toString();
  }

  /** Many small statements, so that the limits of feet and lasts are met. */
  private String crowd(int mid) {
    StringBuilder text = new StringBuilder();
    for (int i = 0; i < 12; i++) {
      text.append(below(3) == 0 ? "last" : "foot");
      for (int k = 0; k < 3; k++) text.append(k == 0 ? "" : " ").append(mid + below(4));
      text.append(i == 11 ? "" : ";");
    }
    return text.toString();
  }

  private void spoil(StringBuilder text) {
    int at = below(text.length());
    switch (below(4)) {
      case 0: text.setLength(at); break;
      case 1: text.setCharAt(at, "; x0A\u00e9\u00000".charAt(below(8))); break;
      case 2: text.insert(at, "; x0Aft9".charAt(below(8))); break;
      default: text.deleteCharAt(at); break;
    }
  }

  private int v() { return near(0, Math.max(0, m.vales.size() - 1)); }
  private int s() { return near(0, 7); }
  private PlainModel.Vale of(int v) { return v >= 0 && v < m.vales.size() ? m.vales.get(v) : new PlainModel.Vale(); }
  private int f(int v) { return near(0, Math.max(0, of(v).feet.size() - 1)); }
  private int l(int v) { return near(0, Math.max(0, of(v).lasts.size() - 1)); }
  private int set(int v) { return near(0, of(v).sets() - 1); }

  private void copyCall() {
    int p = below(2), q = below(3), sort = below(5), size = 1 + below(10);
    same("row", x.row(p, sort, size), m.row(p, sort, size));
    if (q != p) same("row", x.row(q, sort, size + 1), m.row(q, sort, size + 1));
    for (int i = 0; i < size; i++) same("set", x.set(p, i, 3L * i - 4), m.set(p, i, 3L * i - 4));
    int i = below(size), j = below(size), n = near(0, size - Math.max(i, j));
    same("copy(" + p + ", " + q + ", " + i + ", " + j + ", " + n + ")", x.copy(p, q, i, j, n), m.copy(p, q, i, j, n));
    for (int k = 0; k <= size; k++) same("element(" + q + ", " + k + ")", x.element(q, k), m.element(q, k));
  }

  private void shelfCall() {
    if (below(4) == 0) {
      copyCall();
      return;
    }
    int s = s(), t = s(), i = near(0, 12), j = near(0, 12), n = near(0, 12), sort = near(0, 4), kind = near(1, 5);
    switch (below(6)) {
      case 0: { int size = near(0, 40); same("row(" + s + ", " + sort + ", " + size + ")", x.row(s, sort, size), m.row(s, sort, size)); break; }
      case 1: {
        long e = below(3) == 0 ? random.nextLong() : below(14) - 1;
        same("set(" + s + ", " + i + ", " + e + ")", x.set(s, i, e), m.set(s, i, e));
        break;
      }
      case 2: same("copy(" + s + ", " + t + ", " + i + ", " + j + ", " + n + ")", x.copy(s, t, i, j, n), m.copy(s, t, i, j, n)); break;
      case 3: {
        int last = near(0, 9), a = near(0, 30) % (below(3) == 0 ? 99 : 5);
        same("tool(" + s + ", " + kind + ", " + last + ", " + a + ")", x.tool(s, kind, last, a), m.tool(s, kind, last, a));
        break;
      }
      case 4: { int k = near(0, 5); same("says(" + s + ", " + k + ")", x.says(s, k), m.says(s, k)); break; }
      default: same("holds(" + s + ")", x.holds(s), m.holds(s)); same("element(" + s + ", " + i + ")", x.element(s, i), m.element(s, i)); break;
    }
  }

  private void toolCall() {
    int v = v(), s = below(8), f = f(v);
    if (below(2) == 0 && of(v).lasts.size() > 0) {
      int kind = 1 + below(5), last = below(of(v).lasts.size()), a = below(6);
      same("tool(" + s + ", " + kind + ", " + last + ", " + a + ")", x.tool(s, kind, last, a), m.tool(s, kind, last, a));
    }
    same("tries(" + v + ", " + f + ", " + s + ")", x.tries(v, f, s), m.tries(v, f, s));
    same("shoes(" + v + ", " + s + ")", x.shoes(v, s), m.shoes(v, s));
  }

  private void tapeCall() {
    if (m.vales.size() == 4 && below(4) != 0) return;
    if (below(10) == 0) same("wipe()", x.wipe(), m.wipe());
    feed(tapeText());
    same("valley()", x.valley(), m.valley());
  }

  private void changeCall() {
    int v = v(), f = f(v), l = l(v);
    switch (below(6)) {
      case 0: { int what = near(0, 1), to = near(0, 9); same("alter(" + v + ", " + f + ", " + what + ", " + to + ")", x.alter(v, f, what, to), m.alter(v, f, what, to)); break; }
      case 1: { int what = near(0, 3), to = near(0, 40); same("carve(" + v + ", " + l + ", " + what + ", " + to + ")", x.carve(v, l, what, to), m.carve(v, l, what, to)); break; }
      case 2: { int a = near(1, below(2) == 0 ? 1 : 9); same("build(" + v + ", " + l + ", " + a + ")", x.build(v, l, a), m.build(v, l, a)); break; }
      case 3: same("year(" + v + ")", x.year(v), m.year(v)); break;
      default: feetCall(v); break;
    }
  }

  private void feetCall(int v) {
    int s = below(8), size = below(14), sort = below(4);
    same("row", x.row(s, sort, size), m.row(s, sort, size));
    for (int i = 0; i < size; i++) {
      long e = seldom() ? odd() : 8 + below(6);
      same("set", x.set(s, i, e), m.set(s, i, e));
    }
    same("feet(" + v + ", " + s + ")", x.feet(v, s), m.feet(v, s));
  }

  private void judgeCall() {
    int v = v(), set = set(v), s = below(8), sort = below(4);
    int size = Math.max(0, of(v).feet.size() - below(2));
    same("row", x.row(s, sort, size), m.row(s, sort, size));
    boolean fits = set >= 0 && set < of(v).sets();
    for (int f = 0; f < size && fits; f++) {
      long e = seldom() ? odd() : of(v).own(of(v).feet.get(f), set);
      same("set", x.set(s, f, e), m.set(s, f, e));
    }
    same("judge(" + v + ", " + set + ", " + s + ")", x.judge(v, set, s), m.judge(v, set, s));
  }

  private void readCall() {
    int v = v(), f = f(v), l = l(v), set = set(v), what = near(0, 10);
    same("valleyOf(" + v + ", " + what + ")", x.valleyOf(v, what), m.valleyOf(v, what));
    same("footOf(" + v + ", " + f + ", " + what + ")", x.footOf(v, f, what), m.footOf(v, f, what));
    same("lastOf(" + v + ", " + l + ", " + what + ")", x.lastOf(v, l, what), m.lastOf(v, l, what));
    same("does(" + v + ", " + l + ", " + f + ")", x.does(v, l, f), m.does(v, l, f));
    same("bad(" + v + ", " + l + ", " + f + ")", x.bad(v, l, f), m.bad(v, l, f));
    same("whose(" + v + ", " + f + ", " + set + ")", x.whose(v, f, set), m.whose(v, f, set));
    same("total(" + v + ", " + set + ")", x.total(v, set), m.total(v, set));
    same("out(" + v + ", " + set + ")", x.out(v, set), m.out(v, set));
    int n = near(1, 9);
    same("keeps(" + v + ", " + f + ", " + n + ")", x.keeps(v, f, n), m.keeps(v, f, n));
    int w = v(), otherSet = set(w);
    same("lend(" + v + ", " + w + ", " + set + ", " + otherSet + ")", x.lend(v, w, set, otherSet), m.lend(v, w, set, otherSet));
    int k = near(0, 16);
    same("status(" + k + ")", x.status(k), m.status(k));
  }

  private void choiceCall() {
    int v = v(), n = near(0, 10) % 12, set = set(v), sum = below(600);
    if (of(v).lasts.size() > 8) n = near(0, 3);
    switch (below(11)) {
      case 0: same("best(" + v + ", " + n + ")", x.best(v, n), m.best(v, n)); break;
      case 1: same("more(" + v + ", " + n + ")", x.more(v, n), m.more(v, n)); break;
      case 2: same("enough(" + v + ", " + sum + ")", x.enough(v, sum), m.enough(v, sum)); break;
      case 3: same("changed(" + v + ", " + set + ")", x.changed(v, set), m.changed(v, set)); break;
      case 4: same("bound(" + v + ")", x.bound(v), m.bound(v)); break;
      case 5: same("fair(" + v + ", " + n + ")", x.fair(v, n), m.fair(v, n)); break;
      case 6: same("shod(" + v + ", " + n + ")", x.shod(v, n), m.shod(v, n)); break;
      case 7: if (of(v).lasts.size() < 8) same("doubt(" + v + ", " + n + ")", x.doubt(v, n), m.doubt(v, n)); break;
      case 8: if (of(v).lasts.size() < 8) same("idle(" + v + ")", x.idle(v), m.idle(v)); break;
      case 9: {
        int measure = near(0, 2), sizes = near(1, 6), what = below(3) == 0 ? near(0, 1) : 10 + near(0, 5);
        same("line(" + v + ", " + measure + ", " + sizes + ", " + what + ")", x.line(v, measure, sizes, what), m.line(v, measure, sizes, what));
        break;
      }
      default: {
        int what = near(0, 4);
        same("corners(" + v + ")", x.corners(v), m.corners(v));
        same("corner(" + v + ", " + what + ")", x.corner(v, what), m.corner(v, what));
        break;
      }
    }
  }

  private void goingCall() {
    switch (below(6)) {
      case 0: { int v = v(), n = near(0, 10); same("begin(" + v + ", " + n + ")", x.begin(v, n), m.begin(v, n)); break; }
      case 1: case 2: { int k = seldom() ? odd() : 1 + below(9); same("step(" + k + ")", x.step(k), m.step(k)); break; }
      case 3: case 4: { int what = near(0, 4); same("search(" + what + ")", x.search(what), m.search(what)); break; }
      default:
        if (below(2) == 0) same("image()", x.image(), m.image());
        else same("back()", x.back(), m.back());
        break;
    }
  }

  private int run() {
    for (int i = 0; i < 120 && wrong == 0; i++) {
      switch (below(10)) {
        case 0: shelfCall(); break;
        case 1: toolCall(); break;
        case 2: tapeCall(); break;
        case 3: changeCall(); break;
        case 4: judgeCall(); break;
        case 5: readCall(); break;
        case 6: case 7: choiceCall(); break;
        default: goingCall(); break;
      }
    }
    for (int k = 0; k < 17; k++) same("status(" + k + ")", x.status(k), m.status(k));
    return wrong;
  }

  public static void main(String[] args) {
    int runs = 1500;
    int wrong = 0;
    for (int seed = 0; seed < runs && wrong == 0; seed++) {
      wrong += new ModelTest(seed).run();
      if (wrong > 0) System.out.println("seed " + seed);
    }
    System.out.println(wrong == 0 ? runs + " runs answer as the model does" : "the model answers otherwise");
    if (wrong != 0) System.exit(1);
  }
}
