import java.lang.reflect.InvocationTargetException;
import java.lang.reflect.Method;
import java.lang.reflect.Modifier;
import java.util.ArrayList;
import java.util.Arrays;
import java.util.Comparator;
import java.util.List;
import java.util.Random;

/** The largest valleys, compared with the model; and that no call ever throws, whatever it is asked. */
public final class LimitTest {
  private static final Checks c = new Checks();
  private static final int[] EDGES = {Integer.MIN_VALUE, -1000, -2, -1, 0, 1, 2, 3, 4, 5, 6, 7, 8, 9, 10, 11, 12, 13, 15, 16,
    29, 30, 31, 39, 40, 41, 98, 99, 100, 249, 250, 251, 998, 999, 1000, 1022, 1023, 1024, 4095, 4096,
    Integer.MAX_VALUE - 1, Integer.MAX_VALUE};

  private static void tell(NineLasts x, PlainModel m, String text) {
    Checks.tell(x, text);
    m.tape.append(text);
    c.due("valley of " + text, x.valley(), m.valley());
  }

  /** Twelve feet by rows, ten lasts by the tape: more than one tape could tell. */
  private static void largest(int seed) {
    Random r = new Random(seed);
    NineLasts x = new NineLasts();
    PlainModel m = new PlainModel();
    StringBuilder text = new StringBuilder("waste " + r.nextInt(4) + " 1 2;over 9 8 " + (4 + r.nextInt(6)) + ";out " + (20 + r.nextInt(60)));
    for (int l = 0; l < 10; l++)
      text.append(";last ").append(10 + r.nextInt(8)).append(' ').append(5 + r.nextInt(5)).append(' ').append(5 + r.nextInt(5));
    tell(x, m, text.toString());
    for (int part = 0; part < 2; part++) {
      x.row(0, 0, 24);
      m.row(0, 0, 24);
      for (int i = 0; i < 24; i++) {
        int v = i % 4 == 0 ? 8 + r.nextInt(9) : i % 4 == 3 ? 1 + r.nextInt(9) : 4 + r.nextInt(5);
        x.set(0, i, v);
        m.set(0, i, v);
      }
      c.due("feet", x.feet(0, 0), m.feet(0, 0));
    }
    for (int l = 0; l < 10; l++) c.due("carve price", x.carve(0, l, 3, 3 * l), m.carve(0, l, 3, 3 * l));
    for (int f = 0; f < 12; f += 2) c.due("alter give", x.alter(0, f, 1, f / 3), m.alter(0, f, 1, f / 3));
    for (int n = 0; n <= 10; n += 3) {
      c.due("best of " + n, x.best(0, n), m.best(0, n));
      c.due("fair of " + n, x.fair(0, n), m.fair(0, n));
      c.due("shod of " + n, x.shod(0, n), m.shod(0, n));
    }
    c.due("more", x.more(0, 2), m.more(0, 2));
    c.due("doubt", x.doubt(0, 3), m.doubt(0, 3));
    c.due("idle", x.idle(0), m.idle(0));
    for (int set : new int[] {0, 1, 7, 31, 992, 1023, 341}) c.due("changed " + set, x.changed(0, set), m.changed(0, set));
    for (int n = 1; n <= 6; n++)
      for (int measure = 0; measure < 3; measure++)
        for (int what : new int[] {0, 1, 10, 11, 12, 13, 14, 15})
          c.due("line " + measure + " " + n + " " + what, x.line(0, measure, n, what), m.line(0, measure, n, what));
    for (int what = 0; what < 5; what++) c.due("corner " + what, x.corner(0, what), m.corner(0, what));
    c.due("begin", x.begin(0, 4), m.begin(0, 4));
    for (int k : new int[] {1, 500, 22, 999}) c.due("step " + k, x.step(k), m.step(k));
    for (int what = 0; what < 5; what++) c.due("search " + what, x.search(what), m.search(what));
  }

  private static void neverThrows(int seed) throws IllegalAccessException {
    List<Method> face = new ArrayList<>();
    for (Method m : NineLasts.class.getDeclaredMethods()) if (Modifier.isPublic(m.getModifiers())) face.add(m);
    face.sort(Comparator.comparing(Method::getName));
    Random r = new Random(seed);
    NineLasts x = Checks.with("foot 30 30 30 times 99 give 9;last 40 40 40 price 99;over 30 30 30;waste 9 9 9;out 99;grow 9", "out 1");
    for (int i = 0; i < 512; i++) {
      Method m = face.get(r.nextInt(face.size()));
      Object[] args = new Object[m.getParameterCount()];
      for (int k = 0; k < args.length; k++) {
        int v = r.nextInt(3) == 0 ? EDGES[r.nextInt(EDGES.length)] : r.nextInt(3);
        if (m.getParameterTypes()[k] == long.class) args[k] = (long) v * (r.nextInt(2) == 0 ? 1 : 1L << 33);
        else args[k] = v;
      }
      try {
        m.invoke(x, args);
      } catch (InvocationTargetException e) {
        c.due(m.getName() + Arrays.toString(args) + " threw " + e.getCause(), 1, 0);
      }
    }
    c.due("status is still there", Math.min(0, x.status(0)), 0);
  }

  /** The greatest sums there can be, which must not wrap. */
  private static void greatest() {
    NineLasts x = Checks.with("waste 9 9 9;over 30 30 30;out 99;last 30 30 30 price 99");
    x.row(0, 0, 40);
    for (int i = 0; i < 40; i++) x.set(0, i, i % 4 == 3 ? 99 : 0);
    c.due("feet", x.feet(0, 0), 10);
    c.due("feet", x.feet(0, 0), 2);
    c.due("total", x.total(0, 1), 12 * 99 * 810 + 99);
    c.due("best", x.best(0, 1), 0);
    c.due("bound", x.bound(0), 12 * 99 * 99);
    c.due("fair", x.fair(0, 1), 1);
  }

  public static void main(String[] args) throws IllegalAccessException {
    for (int seed = 0; seed < 12; seed++) largest(seed);
    for (int seed = 0; seed < 400; seed++) neverThrows(seed);
    greatest();
    c.end("LimitTest");
  }
}
