/** Promises 11 to 21: the tape, what it tells, feet and lasts and their changes. */
public final class ValleyTest {
  private static final Checks c = new Checks();
  private static final int MIN = Integer.MIN_VALUE, MAX = Integer.MAX_VALUE;

  private static void feeds() {
    NineLasts x = new NineLasts();
    c.due("feed", x.feed(0x6f757420, 4), 4);
    c.due("feed the lowest alone", x.feed(0x12345635, 1), 5);
    c.due("valley by it", x.valley(), 0);
    c.due("out 5", x.valleyOf(0, 3), 5);
    for (int n : new int[] {0, 5, -1, MIN, MAX}) c.bad(x, "feed of " + n, () -> x.feed(1, n));
    Checks.tell(x, " ".repeat(248));
    c.full(x, "feed 3 to 248", () -> x.feed(0, 3));
    c.bad(x, "feed 5 to 248", () -> x.feed(0, 5));
    c.due("feed 2 to 248", x.feed(0x2020, 2), 250);
    c.full(x, "feed 1 to 250", () -> x.feed(0, 1));
    c.due("wipe()", x.wipe(), 250);
    c.due("wipe() again", x.wipe(), 0);
    c.due("the tape's size", x.status(1), 0);
    c.due("feed three", x.feed(-1, 3), 3);
  }

  /** The tape told, and the fault that is due. */
  private static void fault(String text, int place) {
    NineLasts x = new NineLasts();
    Checks.tell(x, text);
    c.due("valley of '" + text + "'", x.valley(), -20 - place);
    c.due("valleys", x.status(0), 0);
    c.due("tape", x.status(1), 0);
    c.due("refusals BAD", x.status(12), 1);
    c.due("other refusals", x.status(13) + x.status(14) + x.status(15) + x.status(16), 0);
  }

  private static void faults() {
    fault("", 0);
    fault("   ", 3);
    fault(";", 0);
    fault("out 5;", 6);
    fault("out 5; ", 7);
    fault("out 5;;out 5", 6);
    fault("out", 3);
    fault("out ", 4);
    fault("out;", 3);
    fault("out x", 4);
    fault("out 100", 4);
    fault("out 005", 4);
    fault("out 5 5", 6);
    fault("out 5 out 5", 6);
    fault("outs 5", 0);
    fault("ou 5", 0);
    fault("Out 5", 0);
    fault("out 5;outz 5", 6);
    fault("foot 1 1 1 timesa 5", 11);
    fault("`", 0);
    fault("{", 0);
    fault("out /", 4);
    fault("out :", 4);
    fault("out 5<", 5);
    fault("out 5.", 5);
    fault("out -5", 4);
    fault("out 5" + (char) 0, 5);
    fault("out 5" + (char) 233, 5);
    fault("out\t5", 3);
    fault("5 out", 0);
    fault("times 5", 0);
    fault("price 5", 0);
    fault("grow 10", 5);
    fault("grow", 4);
    fault("waste 1 1", 9);
    fault("waste 1 10 1", 8);
    fault("waste 1 1 1 1", 12);
    fault("over 31 1 1", 5);
    fault("over 1 1 31", 9);
    fault("over 1 1 ;", 9);
    fault("foot", 4);
    fault("foot 1 1", 8);
    fault("foot 31 0 0", 5);
    fault("foot 0 31 0", 7);
    fault("foot 0 0 31", 9);
    fault("foot 1 1 1 times", 16);
    fault("foot 1 1 1 times 0", 17);
    fault("foot 1 1 1 times 00", 17);
    fault("foot 1 1 1 times 100", 17);
    fault("foot 1 1 1 give 10", 16);
    fault("foot 1 1 1 give 2 times 3", 18);
    fault("foot 1 1 1 times 2 times 3", 19);
    fault("foot 1 1 1 give 2 give 3", 18);
    fault("foot 1 1 1 price 3", 11);
    fault("footfoot 1 1 1", 0);
    fault("foot foot 1 1 1", 5);
    fault("foot 1 1 1 foot 1 1 1", 11);
    fault("last 41 0 0", 5);
    fault("last 0 41 0", 7);
    fault("last 0 0 41", 9);
    fault("last 1 1 1 price 100", 17);
    fault("last 1 1 1 price 1 price 1", 19);
    fault("last 1 1 1 times 2", 11);
    fault("last 1 1 1 give 2", 11);
    fault("last 40 40 40 price 99;", 23);
    fault("foot 1 1 1;" + "foot 1 1 1;".repeat(11) + "foot 1 1 1", 132);
    fault("foot 1 1 1;".repeat(12) + "foot x", 132);
    fault("last 1 1 1;".repeat(10) + "last 1 1 1", 110);
    fault("last 1 1 1;".repeat(10) + "out 1 $", 116);
    fault("out 1;".repeat(41) + "outs", 246);
    fault(" ".repeat(250), 250);
  }

  private static void readings() {
    NineLasts x = Checks.with(" foot 30 0 7times 99give 9 ; last40 0 40price99;waste 0 9 3;over 30 0 1;out 0;grow 0 ",
        "out 99", "foot 00 01 02;foot 3 4 5 give 0;foot 3 4 5 times 1;last 0 0 0;last 01 2 3 price 00;"
        + "waste 1 2 3;waste 9 8 7;over 1 2 3;over 4 5 6;out 1;out 2;grow 1;grow 2");
    int[] first = {1, 1, 99, 0, 0, 0, 9, 3, 30, 0, 1};
    int[] second = {0, 0, 0, 99, 1, 1, 1, 1, 9, 9, 9};
    int[] third = {3, 2, 3, 2, 2, 9, 8, 7, 4, 5, 6};
    for (int w = 0; w <= 10; w++) {
      c.due("valleyOf(0, " + w + ")", x.valleyOf(0, w), first[w]);
      c.due("valleyOf(1, " + w + ")", x.valleyOf(1, w), second[w]);
      c.due("valleyOf(2, " + w + ")", x.valleyOf(2, w), third[w]);
    }
    int[][] feet = {{30, 0, 7, 99, 9}, {0, 1, 2, 1, 0}, {3, 4, 5, 1, 0}};
    int[][] lasts = {{40, 0, 40, 99}, {0, 0, 0, 0}, {1, 2, 3, 0}};
    for (int w = 0; w < 5; w++) {
      c.due("footOf(0, 0, " + w + ")", x.footOf(0, 0, w), feet[0][w]);
      c.due("footOf(2, 0, " + w + ")", x.footOf(2, 0, w), feet[1][w]);
      c.due("footOf(2, 1, " + w + ")", x.footOf(2, 1, w), feet[2][w]);
      c.due("footOf(2, 2, " + w + ")", x.footOf(2, 2, w), feet[2][w]);
    }
    for (int w = 0; w < 4; w++) {
      c.due("lastOf(0, 0, " + w + ")", x.lastOf(0, 0, w), lasts[0][w]);
      c.due("lastOf(2, 0, " + w + ")", x.lastOf(2, 0, w), lasts[1][w]);
      c.due("lastOf(2, 1, " + w + ")", x.lastOf(2, 1, w), lasts[2][w]);
    }
    for (int w : new int[] {-1, 11, MIN, MAX}) c.bad(x, "valleyOf what " + w, () -> x.valleyOf(0, w));
    for (int v : new int[] {-1, 3, MIN, MAX}) {
      c.bad(x, "valleyOf valley " + v, () -> x.valleyOf(v, 0));
      c.bad(x, "footOf valley " + v, () -> x.footOf(v, 0, 0));
      c.bad(x, "lastOf valley " + v, () -> x.lastOf(v, 0, 0));
    }
    for (int f : new int[] {-1, 1, MIN, MAX}) {
      c.bad(x, "footOf foot " + f, () -> x.footOf(0, f, 0));
      c.bad(x, "lastOf last " + f, () -> x.lastOf(0, f, 0));
    }
    for (int w : new int[] {-1, 5, MIN, MAX}) c.bad(x, "footOf what " + w, () -> x.footOf(0, 0, w));
    for (int w : new int[] {-1, 4, MIN, MAX}) c.bad(x, "lastOf what " + w, () -> x.lastOf(0, 0, w));
  }

  private static void fullOfValleys() {
    NineLasts x = new NineLasts();
    for (int v = 0; v < 4; v++) {
      Checks.tell(x, "out " + v);
      c.due("valley()", x.valley(), v);
      c.due("the tape is empty", x.status(1), 0);
    }
    Checks.tell(x, "outs");
    c.full(x, "a fifth valley, with a fault", () -> x.valley());
    c.due("the tape stays", x.wipe(), 4);
    c.full(x, "a fifth valley, no tape", () -> x.valley());
    c.due("out of the last", x.valleyOf(3, 3), 3);
  }

  /** What a valley with a fault told stays nowhere: the next one has the first numbers again. */
  private static void afterFault() {
    NineLasts x = new NineLasts();
    Checks.tell(x, "foot 1 1 1;last 1 1 1;waste 5 5 5;over 5 5 5;out 5;grow 5;");
    c.due("with a fault", x.valley(), -20 - 58);
    Checks.tell(x, "last 2 2 2");
    c.due("the next", x.valley(), 0);
    int[] due = {0, 1, 0, 50, 1, 1, 1, 1, 9, 9, 9};
    for (int w = 0; w <= 10; w++) c.due("valleyOf(0, " + w + ")", x.valleyOf(0, w), due[w]);
  }

  private static void feet() {
    NineLasts x = Checks.with("out 1");
    Checks.fill(x, 0, 2, 1, 2, 3, 4, 30, 30, 30, 99, 5, 5, 5);
    c.due("feet, the row ends", x.feet(0, 0), 2);
    c.due("how many", x.valleyOf(0, 0), 2);
    int[] due = {1, 2, 3, 4, 0, 30, 30, 30, 99, 0};
    for (int i = 0; i < 10; i++) c.due("footOf", x.footOf(0, i / 5, i % 5), due[i]);
    long[][] cannot = {{31, 1, 1, 1}, {1, 31, 1, 1}, {1, 1, 31, 1}, {1, 1, 1, 100}, {1, 1, 1, 0}, {-1, 1, 1, 1},
      {1, -1, 1, 1}, {1, 1, -1, 1}, {1, 1, 1, -1}, {1L << 32, 1, 1, 1}, {1, 1, 1, 1L << 32 | 1}, {1, 1, Long.MIN_VALUE, 1}};
    for (long[] no : cannot) {
      Checks.fill(x, 1, 3, no[0], no[1], no[2], no[3], 1, 1, 1, 1);
      c.due("feet that can't be", x.feet(0, 1), 0);
    }
    Checks.fill(x, 2, 4, 1, 0, 1, 1);
    c.due("feet by booleans", x.feet(0, 2), 1);
    c.due("its B", x.footOf(0, 2, 1), 0);
    x.row(3, 0, 40);
    for (int i = 0; i < 40; i++) x.set(3, i, 7);
    c.due("feet, no room", x.feet(0, 3), 9);
    c.due("feet, none more", x.feet(0, 3), 0);
    c.due("all", x.valleyOf(0, 0), 12);
    x.row(4, 0, 0);
    c.due("feet by an empty row", x.feet(0, 4), 0);
    x.tool(5, 1, 0, 0);
    c.bad(x, "feet no valley, a tool", () -> x.feet(1, 5));
    c.bad(x, "feet no shelf", () -> x.feet(0, 8));
    c.other(x, "feet by a tool", () -> x.feet(0, 5));
    c.nothing(x, "feet by nothing", () -> x.feet(0, 6));
  }

  private static void feetGiveNothing() {
    NineLasts x = Checks.with("foot 1 1 1 times 2 give 9");
    x.image();
    Checks.fill(x, 0, 1, 4, 4, 4, 4);
    x.alter(0, 0, 1, 8);
    x.feet(0, 0);
    x.alter(0, 1, 1, 7);
    x.back();
    x.feet(0, 0);
    c.due("a foot by a row gives 0, whatever stood there", x.footOf(0, 1, 4), 0);
  }

  private static void alters() {
    NineLasts x = Checks.with("foot 1 2 3 times 4 give 5;last 6 7 8 price 9");
    c.due("alter times", x.alter(0, 0, 0, 99), 4);
    c.due("alter times", x.alter(0, 0, 0, 1), 99);
    c.due("alter give", x.alter(0, 0, 1, 0), 5);
    c.due("alter give", x.alter(0, 0, 1, 9), 0);
    int[][] wrong = {{1, 0, 0, 1}, {-1, 0, 0, 1}, {0, 1, 0, 1}, {0, -1, 0, 1}, {0, 0, 2, 1}, {0, 0, -1, 1}, {0, 0, 0, 0},
      {0, 0, 0, 100}, {0, 0, 1, -1}, {0, 0, 1, 10}, {0, 0, 0, MIN}, {0, 0, 1, MAX}, {MAX, 0, 0, 1}, {0, MAX, 0, 1}};
    for (int[] w : wrong) c.bad(x, "alter " + java.util.Arrays.toString(w), () -> x.alter(w[0], w[1], w[2], w[3]));
    int[] was = {6, 7, 8, 9};
    int[] most = {40, 40, 40, 99};
    for (int what = 0; what < 4; what++) {
      int w = what;
      c.due("carve", x.carve(0, 0, what, most[what]), was[what]);
      c.due("carve", x.carve(0, 0, what, 0), most[what]);
      c.bad(x, "carve too much", () -> x.carve(0, 0, w, most[w] + 1));
      c.bad(x, "carve too little", () -> x.carve(0, 0, w, -1));
    }
    int[][] bad = {{1, 0, 0, 1}, {-1, 0, 0, 1}, {0, 1, 0, 1}, {0, -1, 0, 1}, {0, 0, 4, 1}, {0, 0, -1, 1}, {0, 0, MAX, 1}};
    for (int[] w : bad) c.bad(x, "carve " + java.util.Arrays.toString(w), () -> x.carve(w[0], w[1], w[2], w[3]));
    c.due("the foot's own stay", x.footOf(0, 0, 0) * 100 + x.footOf(0, 0, 1) * 10 + x.footOf(0, 0, 2), 123);
  }

  private static void builds() {
    NineLasts x = Checks.with("last 31 1 2 price 95");
    c.due("build", x.build(0, 0, 9), 1);
    int[] due = {40, 10, 11, 99};
    for (int w = 0; w < 4; w++) c.due("lastOf", x.lastOf(0, 1, w), due[w]);
    c.due("build by 4", x.build(0, 0, 4), 2);
    c.due("price of it", x.lastOf(0, 2, 3), 99);
    c.due("build by 3", x.build(0, 0, 3), 3);
    c.due("price of it", x.lastOf(0, 3, 3), 98);
    c.stuck(x, "build above 40", () -> x.build(0, 1, 1));
    for (int i = 4; i < 10; i++) c.due("build", x.build(0, 0, 1), i);
    c.full(x, "build an eleventh", () -> x.build(0, 0, 1));
    c.stuck(x, "build above 40, ahead of FULL", () -> x.build(0, 1, 1));
    for (int a : new int[] {0, 10, -1, MIN, MAX}) c.bad(x, "build by " + a, () -> x.build(0, 1, a));
    for (int l : new int[] {-1, 10, MIN, MAX}) c.bad(x, "build last " + l, () -> x.build(0, l, 1));
    for (int v : new int[] {-1, 1, MIN, MAX}) c.bad(x, "build valley " + v, () -> x.build(v, 0, 1));
    NineLasts just = Checks.with("last 31 31 31");
    c.due("build up to just 40", just.build(0, 0, 9), 1);
    c.due("B of it", just.lastOf(0, 1, 1), 40);
    c.due("H of it", just.lastOf(0, 1, 2), 40);
    NineLasts b = Checks.with("last 1 40 1;last 1 1 40;last 32 31 31");
    c.stuck(b, "build B above", () -> b.build(0, 0, 1));
    c.stuck(b, "build H above", () -> b.build(0, 1, 1));
    c.stuck(b, "build L above", () -> b.build(0, 2, 9));
  }

  private static void years() {
    NineLasts x = Checks.with("foot 1 1 1;foot 30 1 1 times 5;foot 28 1 1;foot 27 1 1;grow 3", "foot 1 1 1;grow 0", "out 1");
    c.due("year", x.year(0), 3);
    int[] due = {4, 30, 30, 30};
    for (int f = 0; f < 4; f++) c.due("L", x.footOf(0, f, 0), due[f]);
    c.due("B", x.footOf(0, 0, 1), 1);
    c.due("year", x.year(0), 1);
    c.due("L", x.footOf(0, 0, 0), 7);
    NineLasts slow = Checks.with("foot 1 1 1;foot 29 1 1;foot 30 1 1");
    c.due("a year with growing by 1", slow.year(0), 2);
    c.due("L", slow.footOf(0, 1, 0), 30);
    c.due("a year without growing", x.year(1), 0);
    c.due("L", x.footOf(1, 0, 0), 1);
    c.due("a year of no feet", x.year(2), 0);
    for (int v : new int[] {-1, 3, MIN, MAX}) c.bad(x, "year of " + v, () -> x.year(v));
  }

  public static void main(String[] args) {
    feeds();
    faults();
    readings();
    fullOfValleys();
    afterFault();
    feet();
    feetGiveNothing();
    alters();
    builds();
    years();
    c.end("ValleyTest");
  }
}
