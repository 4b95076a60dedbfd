/** The boundary cases of DOES and CHOICE in 'Terms', of section 2 and of promises 22 to 41, where they are not refusals. */
public final class ChoiceEdgeTest {
  private static final Edge e = new Edge();
  private static final int MIN = Edge.MIN, MAX = Edge.MAX;

  /** Twelve feet, 0 0 0 to 11 11 11, each twice, and what is told besides. */
  private static NineLasts twelve(String text) {
    NineLasts x = Edge.with("foot 0 0 0 times 2;foot 1 1 1 times 2;" + text);
    Checks.fill(x, 0, 0, Edge.row(2, 10));
    x.feet(0, 0);
    return x;
  }

  /** Ten feet, each of which one last alone does for, and fits. */
  private static NineLasts tenForTen() {
    StringBuilder text = new StringBuilder("over 0 0 0");
    for (int i = 0; i < 10; i++) text.append(";foot ").append(i).append(" 1 1;last ").append(i).append(" 1 1");
    return Edge.with(text.toString());
  }

  /** LAST 0 of a valley with one measure carved so, for FOOT 0: BADNESS, and whether it does. */
  private static void carved(NineLasts x, int measure, int size, int due) {
    x.carve(0, 0, measure, size);
    e.due("bad by " + size + " in " + measure, x.bad(0, 0, 0), due);
    e.due("does by " + size + " in " + measure, x.does(0, 0, 0), due < 0 ? 0 : 1);
  }

  private static void noLess() {
    e.of("A LAST DOES for a FOOT, if each of its measures is no less than the FOOT's less give");
    for (int m = 0; m < 3; m++) {
      NineLasts stiff = Edge.with("foot 10 10 10;last 10 10 10");
      carved(stiff, m, 10, 0);
      carved(stiff, m, 9, -1);
      NineLasts gives = Edge.with("foot 10 10 10 give 9;last 10 10 10");
      carved(gives, m, 2, 0);
      carved(gives, m, 1, 0);
      carved(gives, m, 0, -1);
      carved(Edge.with("foot 10 10 10 give 1;last 10 10 10"), m, 9, 0);
      carved(Edge.with("foot 10 10 10 give 1;last 10 10 10"), m, 8, -1);
      carved(Edge.with("foot 5 5 5 give 9;last 5 5 5"), m, 0, 0);
      carved(Edge.with("foot 0 0 0;last 0 0 0"), m, 0, 0);
    }
  }

  private static void noMore() {
    e.of("and no more than that and over of it");
    int[] over = {1, 2, 3};
    for (int m = 0; m < 3; m++) {
      NineLasts x = Edge.with("foot 10 10 10;last 10 10 10;over 1 2 3");
      carved(x, m, 10 + over[m], over[m]);
      carved(x, m, 11 + over[m], -1);
      NineLasts gives = Edge.with("foot 10 10 10 give 9;last 10 10 10;over 1 2 3");
      carved(gives, m, 10 + over[m], over[m]);
      carved(gives, m, 11 + over[m], -1);
      NineLasts tight = Edge.with("foot 10 10 10;last 10 10 10;over 0 0 0");
      carved(tight, m, 10, 0);
      carved(tight, m, 11, -1);
      NineLasts wide = Edge.with("foot 9 9 9;last 9 9 9;over 30 30 30");
      carved(wide, m, 39, 30);
      carved(wide, m, 40, -1);
      carved(Edge.with("foot 10 10 10;last 10 10 10;over 30 30 30"), m, 40, 30);
    }
  }

  private static void wasteOfAllThree() {
    e.of("BADNESS then: waste times how far it is above, of all three measures together");
    e.due("each by its own waste", Edge.with("foot 10 10 10;last 12 13 14;waste 1 2 3").bad(0, 0, 0), 2 + 6 + 12);
    e.due("the greatest", Edge.with("foot 0 0 0;last 30 30 30;waste 9 9 9;over 30 30 30").bad(0, 0, 0), 810);
    e.due("waste 0", Edge.with("foot 10 10 10;last 12 13 14;waste 0 0 0").bad(0, 0, 0), 0);
    e.due("above by none", Edge.with("foot 10 10 10;last 10 10 10;waste 9 9 9").bad(0, 0, 0), 0);
  }

  private static void notAbove() {
    e.of("(0 where it isn't above)");
    e.due("L below", Edge.with("foot 10 10 10 give 4;last 6 13 14;waste 1 2 3").bad(0, 0, 0), 6 + 12);
    e.due("B below", Edge.with("foot 10 10 10 give 4;last 12 6 14;waste 1 2 3").bad(0, 0, 0), 2 + 12);
    e.due("H below", Edge.with("foot 10 10 10 give 4;last 12 13 6;waste 1 2 3").bad(0, 0, 0), 2 + 6);
    e.due("all below", Edge.with("foot 10 10 10 give 4;last 6 6 6;waste 1 2 3").bad(0, 0, 0), 0);
  }

  private static void whetherItDoes() {
    e.of("Whether a LAST DOES for a FOOT: 1, 0. .. BADNESS; NONE: it doesn't do.");
    NineLasts x = Edge.with("foot 5 5 5;foot 7 5 5;foot 6 5 5;last 7 5 5;last 6 5 5",
        "foot 9 9 9;foot 8 9 9;last 9 9 9;last 9 10 9;last 8 9 9;waste 2 3 4",
        "foot 1 1 1;foot 1 1 2;foot 1 1 3;foot 1 1 4;last 1 1 4;last 1 1 3;last 1 1 2;grow 0");
    int[][][] due = {{{2, 0, 1}, {1, -1, 0}}, {{0, 2}, {3, 5}, {-1, 0}}, {{3, 2, 1, 0}, {2, 1, 0, -1}, {1, 0, -1, -1}}};
    for (int v = 0; v < 3; v++)
      for (int l = 0; l < due[v].length; l++)
        for (int f = 0; f < due[v][l].length; f++) {
          String of = "(" + v + ", " + l + ", " + f + ")";
          e.due("bad" + of, x.bad(v, l, f), due[v][l][f]);
          e.due("does" + of, x.does(v, l, f), due[v][l][f] < 0 ? 0 : 1);
          e.due("whose of that alone" + of, x.whose(v, f, 1 << l), due[v][l][f] < 0 ? -1 : l);
        }
    int[][] keeps = {{3, 0, 1}, {0, 3}, {7, 7, 3, 1}};
    for (int v = 0; v < 3; v++)
      for (int f = 0; f < keeps[v].length; f++) e.due("keeps(" + v + ", " + f + ", 1)", x.keeps(v, f, 1), keeps[v][f]);
    e.due("nothing was refused", x.status(12), 0);
    NineLasts most = twelve("over 0 0 0" + ";last 1 1 1".repeat(9) + ";last 11 11 11");
    e.due("the tenth for the twelfth", most.does(0, 9, 11), 1);
    e.due("the tenth for the twelfth", most.bad(0, 9, 11), 0);
    e.due("the tenth for the eleventh", most.does(0, 9, 10), 0);
    e.due("the ninth for the twelfth", most.bad(0, 8, 11), -1);
  }

  private static void lastsAlone() {
    e.of("A CHOICE is a set of LASTS (bits); (a set has LASTS alone)");
    NineLasts ten = Edge.tenLasts();
    e.due("whose of all ten", ten.whose(0, 0, 1023), -1);
    e.due("total of all ten", ten.total(0, 1023), 50 + 36);
    e.due("total of the tenth", ten.total(0, 512), 50 + 8);
    e.due("out by all ten", ten.out(0, 1023), 1);
    e.due("changed from all ten", ten.changed(0, 1023), 1023);
    ten.row(0, 0, 0);
    e.due("judge by all ten", ten.judge(0, 1023, 0), -1);
    NineLasts none = Edge.with("foot 1 1 1;out 7", "foot 1 1 1;out 8");
    e.due("whose of no lasts", none.whose(0, 0, 0), -1);
    e.due("total of no lasts", none.total(0, 0), 7);
    e.due("out by no lasts", none.out(0, 0), 1);
    e.due("changed of no lasts", none.changed(0, 0), 0);
    e.due("lend of no lasts", none.lend(0, 1, 0, 0), 15);
    int[][] beyond = {{0, 1}, {2, 4}, {10, 1024}};
    for (int[] b : beyond) {
      int set = b[1];
      for (int no : new int[] {set, -1, 2 * set, set | MIN, MAX, MIN}) {
        e.bad("whose " + no, () -> lasts(b[0]), x -> x.whose(0, 0, no));
        e.bad("total " + no, () -> lasts(b[0]), x -> x.total(0, no));
        e.bad("out " + no, () -> lasts(b[0]), x -> x.out(0, no));
        e.bad("judge " + no, () -> lasts(b[0]), x -> x.judge(0, no, 0));
        e.bad("changed " + no, () -> lasts(b[0]), x -> x.changed(0, no));
        e.bad("lend " + no, () -> lasts(b[0]), x -> x.lend(0, 1, no, 0));
        e.bad("lend to " + no, () -> lasts(b[0]), x -> x.lend(1, 0, 0, no));
      }
    }
  }

  /** So many lasts in valley 0, one in valley 1, and a row. */
  private static NineLasts lasts(int count) {
    NineLasts x = Edge.with("foot 1 1 1" + ";last1 1 1".repeat(count), "foot 2 2 2;last 2 2 2");
    x.row(0, 0, 1);
    return x;
  }

  private static void ownOne() {
    e.of("A FOOT's OWN one: of the set the LAST that DOES for it with the least BADNESS, of several the first; none: it is OUT.");
    NineLasts x = Edge.with("foot 10 10 10;last 12 10 10;last 11 10 10;last 10 11 10;last 20 10 10");
    int[] due = {-1, 0, 1, 1, 2, 2, 1, 1, -1, 0, 1, 1, 2, 2, 1, 1};
    for (int set = 0; set < 16; set++) {
      e.due("whose of " + set, x.whose(0, 0, set), due[set]);
      e.due("out by " + set, x.out(0, set), due[set] < 0 ? 1 : 0);
    }
    NineLasts ten = tenForTen();
    e.due("the tenth for the tenth", ten.whose(0, 9, 1023), 9);
    e.due("the tenth alone", ten.whose(0, 9, 512), 9);
    e.due("all but the tenth", ten.whose(0, 9, 511), -1);
    e.due("the first", ten.whose(0, 0, 1), 0);
  }

  private static void totals() {
    e.of("TOTAL: times BADNESS .. or times out of those OUT, of all FEET, and PRICES of the set.");
    NineLasts x = Edge.with("foot 10 10 10 times 3;foot 20 20 20 times 2;last 11 10 10 price 7;last 20 20 20 price 9;out 5");
    int[] due = {25, 20, 24, 19};
    for (int set = 0; set < 4; set++) e.due("total of " + set, x.total(0, set), due[set]);
    e.due("BADNESS above out stays", Edge.with("foot 1 1 1 times 2;last 10 1 1;out 1").total(0, 1), 18);
    e.due("out 0", Edge.with("foot 1 1 1 times 99;out 0").total(0, 0), 0);
    e.due("out 99", Edge.with("foot 1 1 1 times 99;out 99").total(0, 0), 99 * 99);
    e.due("no feet", Edge.with("last 1 1 1 price 99").total(0, 1), 99);
    e.due("no feet, no lasts", Edge.with("out 99").total(0, 0), 0);
    NineLasts most = Edge.with("last 30 30 30 price 99;waste 9 9 9;over 30 30 30");
    most.row(0, 0, 40);
    for (int i = 0; i < 40; i++) most.set(0, i, i % 4 == 3 ? 99 : 0);
    most.feet(0, 0);
    most.feet(0, 0);
    e.due("the greatest", most.total(0, 1), 12 * 99 * 810 + 99);
  }

  private static void outBits() {
    e.of("FEET (bits) that are OUT by a set.");
    NineLasts x = twelve("last 11 11 11;last 0 0 0;over 0 0 0");
    e.due("by none", x.out(0, 0), 0xfff);
    e.due("by that of the twelfth", x.out(0, 1), 0x7ff);
    e.due("by that of the first", x.out(0, 2), 0xffe);
    e.due("by both", x.out(0, 3), 0x7fe);
    e.due("nobody", twelve("last 11 11 11;over 30 30 30").out(0, 1), 0);
    e.due("no feet", Edge.with("last 1 1 1").out(0, 1), 0);
  }

  private static void judged(String what, int due, int set, int sort, long... row) {
    NineLasts x = Edge.with("foot 5 5 5;foot 6 6 6;foot 9 9 9;last 6 6 6;last 5 5 5;last 6 6 6;over 1 1 1");
    Checks.fill(x, 7, sort, row);
    e.due("judge: " + what, x.judge(0, set, 7), due);
    e.due("nothing is refused: " + what, x.status(12) + x.status(13) + x.status(14), 0);
  }

  private static void judgeOwn() {
    e.of("the first FOOT for which that isn't its OWN one of a set .. NONE.");
    judged("all as it is", -1, 7, 2, 1, 0, -1);
    judged("by bytes", -1, 7, 0, 1, 0, -1);
    judged("the first isn't", 0, 7, 2, 0, 0, -1);
    judged("the first of two", 0, 7, 2, 0, 1, -1);
    judged("as good, but not the first", 1, 7, 2, 1, 2, -1);
    judged("the first is not in the set", -1, 6, 2, 1, 2, -1);
    judged("one that is not in the set", 1, 6, 2, 1, 0, -1);
    judged("the last isn't OUT", 2, 7, 2, 1, 0, 0);
    judged("no set, all OUT", -1, 0, 2, -1, -1, -1);
    judged("no set, the first is not OUT", 0, 0, 2, 0, -1, -1);
    judged("by booleans", -1, 3, 4, 1, 0);
    NineLasts x = twelve("last 11 11 11;over 0 0 0");
    Checks.fill(x, 1, 2, -1, -1, -1, -1, -1, -1, -1, -1, -1, -1, -1, 0);
    e.due("the twelfth is as it is", x.judge(0, 1, 1), -1);
    x.set(1, 11, 1);
    e.due("the twelfth isn't", x.judge(0, 1, 1), 11);
    NineLasts none = Edge.with("last 1 1 1");
    Checks.fill(none, 0, 2, 5);
    e.due("no feet", none.judge(0, 1, 0), -1);
    none.row(0, 2, 0);
    e.due("no feet, an empty row", none.judge(0, 1, 0), -1);
  }

  private static void judgeOthers() {
    e.of("(others: it is OUT)");
    for (long other : new long[] {-1, 3, 9, 10, 100, 1L << 32, -(1L << 32), Long.MIN_VALUE, Long.MAX_VALUE}) {
      judged("OUT by " + other, -1, 7, 3, 1, 0, other);
      judged("not OUT by " + other, 0, 7, 3, other, 0, -1);
    }
    judged("the last that is there", 2, 7, 3, 1, 0, 2);
  }

  private static void judgeMissing() {
    e.of("(missing ones: OUT)");
    judged("the third, who is OUT", -1, 7, 2, 1, 0);
    judged("the second, who isn't", 1, 7, 2, 1);
    judged("all of them", 0, 7, 2);
    judged("all of them, and nobody is shod", -1, 0, 2);
    judged("more than there are", -1, 7, 2, 1, 0, -1, 5, 5, 5);
  }

  // ---- section 2

  private static void bestOfAtMost() {
    e.of("BEST of n (0 to 10): of sets of n LASTS at most that of the least TOTAL");
    NineLasts x = tenForTen();
    for (int n = 0; n <= 10; n++) e.due("best of " + n, x.best(0, n), (1 << n) - 1);
    NineLasts one = Edge.with("foot 5 5 5;last 6 5 5;last 5 5 5 price 1");
    e.due("of 0", one.best(0, 0), 0);
    for (int n = 1; n <= 10; n++) e.due("no more than pays, of " + n, one.best(0, n), 1);
    e.due("no lasts", Edge.with("foot 1 1 1").best(0, 10), 0);
    e.due("no feet", Edge.with("last 1 1 1").best(0, 10), 0);
    NineLasts dear = Edge.with("foot 5 5 5;last 5 5 5 price 50");
    e.due("as dear as OUT", dear.best(0, 1), 0);
    dear.carve(0, 0, 3, 49);
    e.due("less dear", dear.best(0, 1), 1);
    e.badBeyond("best of", Edge::rich, 0, 10, (y, n) -> y.best(0, n));
  }

  private static void bestByBits() {
    e.of("of several the least as bits");
    NineLasts x = Edge.with("foot 1 2 1;foot 5 1 1 give 4;last 1 3 1;last 5 1 1;last 1 2 1;over 1 1 1;waste 1 0 1");
    int[] totals = {100, 50, 50, 0, 0, 0, 0, 0};
    for (int set = 0; set < 8; set++) e.due("total of " + set, x.total(0, set), totals[set]);
    e.due("of one", x.best(0, 1), 4);
    for (int n = 2; n <= 10; n++) e.due("two lasts of less bits, of " + n, x.best(0, n), 3);
    e.due("nothing pays", Edge.with("foot 1 1 1;last 1 1 1;last 1 1 1;out 0").best(0, 2), 0);
    e.due("the first of two", Edge.with("foot 1 1 1;last 1 1 1;last 1 1 1").best(0, 2), 1);
  }

  private static void changedLess() {
    e.of("CHANGED from a set: while there is a LAST of it that put out, and another one put in, makes TOTAL less");
    NineLasts same = Edge.with("foot 5 5 5;last 5 5 5;last 5 5 5;last 6 5 5");
    e.due("not for one as good", same.changed(0, 1), 1);
    e.due("not for one as good", same.changed(0, 2), 2);
    e.due("for a better one", same.changed(0, 4), 1);
    e.due("nothing to put out", same.changed(0, 0), 0);
    e.due("nothing to put in", same.changed(0, 7), 7);
    NineLasts twice = Edge.with("foot 5 5 5;foot 9 9 9;last 1 1 1;last 2 2 2;last 5 5 5;last 9 9 9;over 0 0 0");
    e.due("twice", twice.changed(0, 3), 12);
    NineLasts dear = Edge.with("foot 5 5 5;last 5 5 5 price 9;last 5 5 5 price 8");
    e.due("for one less dear", dear.changed(0, 1), 2);
    e.due("not put out alone, though that were less", dear.changed(0, 3), 3);
    e.due("not put in alone", dear.changed(0, 0), 0);
    NineLasts ten = tenForTen();
    e.due("of nine of ten", ten.changed(0, 1022), 1022);
    ten.carve(0, 0, 1, 40);
    e.due("the first for the tenth", ten.changed(0, 511), 1022);
    e.due("the tenth stays", ten.changed(0, 512), 512);
  }

  private static void changedLeast() {
    e.of("of all such pairs that by which it is least");
    NineLasts x = Edge.with("over 3 0 0;out 9;foot 4 1 1;foot 5 1 1;last 4 1 1;last 4 1 1;last 7 1 1;last 5 1 1");
    // {1, 2} is less by 7, {1, 3} by 9: by the former first one would come to {0, 3}.
    int[][] totals = {{3, 9}, {6, 2}, {10, 0}, {5, 2}, {9, 0}};
    for (int[] t : totals) e.due("total of " + t[0], x.total(0, t[0]), t[1]);
    e.due("changed from 0 and 1", x.changed(0, 3), 10);
    // From {0, 3} 1 may come for 0 (7) or for 3 (6), and 2 as well: the lesser counts, though the former comes first.
    NineLasts y = Edge.with("over 3 3 0;out 9;foot 4 1 1;foot 3 4 1;foot 5 4 1;last 6 1 1;last 6 4 1;last 6 4 1;last 6 2 1");
    int[][] then = {{9, 20}, {10, 7}, {12, 7}, {3, 6}, {5, 6}};
    for (int[] t : then) e.due("total of " + t[0], y.total(0, t[0]), t[1]);
    e.due("changed from 0 and 3", y.changed(0, 9), 3);
  }

  private static void changedFirstOut() {
    e.of("of several the first by the one put out, then ..");
    NineLasts x = Edge.with("over 3 0 0;out 9;foot 4 1 1;foot 2 1 1;last 2 1 1;last 2 1 1;last 4 1 1");
    e.due("0 goes, not 1", x.changed(0, 3), 6);
    // Out 0, in 3 is as good as out 1, in 2; all other pairs are worse than nothing.
    NineLasts y = Edge.with("foot 10 5 4;foot 5 10 4;foot 10 10 10 give 5;last 10 5 5;last 5 10 5;last 5 10 4;last 10 5 4;"
        + "over 0 0 1;out 9");
    int[][] totals = {{3, 2}, {5, 1}, {10, 1}, {9, 9}, {6, 9}, {12, 9}};
    for (int[] t : totals) e.due("total of " + t[0], y.total(0, t[0]), t[1]);
    e.due("the one put out is asked first", y.changed(0, 3), 10);
  }

  private static void changedFirstIn() {
    e.of("then by the one put in.");
    NineLasts x = Edge.with("over 3 0 0;out 9;foot 4 1 1;foot 5 1 1;last 5 1 1;last 4 1 1;last 7 1 1;last 4 1 1");
    e.due("1 comes, not 3", x.changed(0, 5), 3);
    e.due("of one", Edge.with("foot 5 5 5;last 4 4 4;last 5 5 5;last 5 5 5").changed(0, 1), 2);
  }

  private static void bounds() {
    e.of("BOUND: of all FEET times the lesser of out and the least BADNESS of a LAST that DOES (of all).");
    String text = "foot 5 5 5 times 3;foot 6 6 6;foot 20 20 20 times 2;last 7 6 6 price 99;last 6 6 6 price 99;";
    // Least BADNESS 3 and 0; nobody does for the third.
    e.due("above both", Edge.with(text + "out 4").bound(0), 3 * 3 + 0 + 2 * 4);
    e.due("just as much", Edge.with(text + "out 3").bound(0), 3 * 3 + 0 + 2 * 3);
    e.due("out is less", Edge.with(text + "out 2").bound(0), 3 * 2 + 0 + 2 * 2);
    e.due("out 0", Edge.with(text + "out 0").bound(0), 0);
    e.due("no lasts", Edge.with("foot 1 1 1 times 99;out 99").bound(0), 99 * 99);
    e.due("no feet", Edge.with("last 1 1 1 price 9").bound(0), 0);
    e.due("the tenth last", tenForTen().bound(0), 0);
    e.due("twelve feet", twelve("out 99").bound(0), 12 * 2 * 99);
  }

  private static void fairNobodyOut() {
    e.of("FAIR of n: of sets of n at most by which nobody is OUT; NONE: none");
    NineLasts x = Edge.with("foot 5 5 5;foot 20 20 20;last 5 5 5;last 20 20 20;out 0");
    e.due("of 0", x.fair(0, 0), -1);
    e.due("of 1", x.fair(0, 1), -1);
    for (int n = 2; n <= 10; n++) e.due("of " + n, x.fair(0, n), 3);
    NineLasts ten = tenForTen();
    e.due("nine are not enough", ten.fair(0, 9), -1);
    e.due("ten are", ten.fair(0, 10), 1023);
    NineLasts out = Edge.with("foot 5 5 5 times 99;foot 20 20 20;last 5 5 5");
    for (int n = 0; n <= 10; n++) e.due("one is OUT", out.fair(0, n), -1);
    e.due("no feet: nobody is OUT", Edge.with("last 1 1 1").fair(0, 0), 0);
    e.due("no feet", Edge.with("last 1 1 1").fair(0, 10), 0);
    e.due("NONE is not refused", out.status(12) + out.status(15), 0);
    e.badBeyond("fair of", Edge::rich, 0, 10, (y, n) -> y.fair(0, n));
  }

  private static void fairLeastGreatest() {
    e.of("that of the least greatest BADNESS");
    NineLasts x = Edge.with("foot 5 5 5;foot 6 5 5;last 8 5 5;last 7 5 5 price 99");
    e.due("even if it is dear", x.fair(0, 1), 2);
    e.due("best is the other", x.best(0, 1), 1);
    // LAST 0: 3 and 0; LAST 1: 2 and 2, which times make more.
    NineLasts y = Edge.with("foot 5 5 5;foot 8 5 5 times 50 give 3;last 8 5 5;last 5 5 7");
    e.due("whatever times are", y.fair(0, 1), 2);
    e.due("best is the other", y.best(0, 1), 1);
    e.due("0 is less than 1", Edge.with("foot 5 5 5;last 6 5 5;last 5 5 5 price 9").fair(0, 1), 2);
  }

  private static void fairLeastTotal() {
    e.of("of several of the least TOTAL, then the least as bits (FAIR)");
    e.due("less dear", Edge.with("foot 5 5 5;last 6 5 5 price 4;last 6 5 5 price 3;last 6 5 5 price 3").fair(0, 3), 2);
    // All three are 3 above the first foot and 1 above the second.
    NineLasts x = Edge.with("foot 5 5 5;foot 7 5 5;last 8 5 5 price 1;last 7 5 6;last 7 6 5");
    e.due("the least bits of the less dear", x.fair(0, 1), 2);
    x.carve(0, 0, 3, 0);
    e.due("the least bits of all", x.fair(0, 3), 1);
    NineLasts y = Edge.with("foot 5 5 5;foot 8 8 8 times 2;last 5 5 6;last 8 8 9;last 8 8 8;over 2 2 2");
    // Greatest is 1 by {0, 1} and by {0, 2}; TOTAL 3 and 1.
    e.due("the least TOTAL", y.fair(0, 2), 5);
  }

  private static void shodFewest() {
    e.of("MOST SHOD of n: of sets of n at most that by which the fewest (by times) are OUT");
    NineLasts x = Edge.with("foot 1 1 1;foot 2 2 2;foot 20 20 20 times 3;last 2 2 2;last 20 20 20 price 99;out 1");
    e.due("of 0", x.shod(0, 0), 0);
    e.due("three of one foot, whatever it costs", x.shod(0, 1), 2);
    for (int n = 2; n <= 10; n++) e.due("all, of " + n, x.shod(0, n), 3);
    NineLasts two = Edge.with("foot 1 1 1 times 2;foot 2 2 2 times 2;foot 20 20 20 times 3;last 20 20 20;last 2 2 2 price 99");
    e.due("two feet, twice each, are more than three of one", two.shod(0, 1), 2);
    NineLasts ten = tenForTen();
    for (int n = 0; n <= 10; n++) e.due("of ten " + n, ten.shod(0, n), (1 << n) - 1);
    e.due("nobody can be shod, and it costs", Edge.with("foot 9 9 9;last 1 1 1 price 1").shod(0, 1), 0);
    e.due("no feet", Edge.with("last 1 1 1").shod(0, 10), 0);
    e.due("no lasts", Edge.with("foot 1 1 1").shod(0, 10), 0);
    NineLasts worse = Edge.with("foot 1 1 1;last 9 9 9 price 99;out 0");
    e.due("though OUT costs nothing", worse.shod(0, 1), 1);
    e.badBeyond("shod of", Edge::rich, 0, 10, (y, n) -> y.shod(0, n));
  }

  private static void shodLeastTotal() {
    e.of("of several of the least TOTAL, then the least as bits. (MOST SHOD)");
    e.due("less bad", Edge.with("foot 1 1 1;last 2 2 2;last 1 1 1").shod(0, 1), 2);
    e.due("less dear", Edge.with("foot 1 1 1;last 1 1 1 price 2;last 1 1 1 price 1;last 1 1 1 price 1").shod(0, 3), 2);
    e.due("the least bits", Edge.with("foot 1 1 1;last 2 1 1;last 1 2 1;last 1 1 2").shod(0, 3), 1);
    NineLasts x = Edge.with("foot 1 2 1;foot 5 1 1 give 4;last 1 3 1;last 5 1 1;last 1 2 1;over 1 1 1;waste 1 0 1");
    e.due("two of less bits", x.shod(0, 2), 3);
    e.due("one", x.shod(0, 1), 4);
  }

  private static void lineIs(NineLasts x, int measure, int n, int sum, int... sizes) {
    String call = "line(0, " + measure + ", " + n + ", ";
    e.due(call + "0)", x.line(0, measure, n, 0), sum);
    e.due(call + "1)", x.line(0, measure, n, 1), sizes.length);
    for (int i = 0; i < 6; i++)
      e.due(call + (10 + i) + ")", x.line(0, measure, n, 10 + i), i < sizes.length ? sizes[i] : -2);
  }

  private static String feet(int... ls) {
    StringBuilder text = new StringBuilder();
    for (int l : ls) text.append(text.length() == 0 ? "" : ";").append("foot ").append(l).append(" 1 1");
    return text.toString();
  }

  private static void lineSizes() {
    e.of("ALONG a measure (0 L, 1 B, 2 H) with n SIZES (1 to 6)");
    NineLasts x = Edge.with(feet(1, 2, 3, 4, 5, 6, 7));
    lineIs(x, 0, 1, 21, 7);
    lineIs(x, 0, 5, 2, 1, 2, 3, 5, 7);
    lineIs(x, 0, 6, 1, 1, 2, 3, 4, 5, 7);
    NineLasts y = Edge.with("foot 1 30 5;foot 3 20 5 times 2;waste 2 3 4");
    lineIs(y, 0, 1, 4, 3);
    lineIs(y, 1, 1, 60, 30);
    lineIs(y, 2, 1, 0, 5);
    lineIs(y, 1, 2, 0, 20, 30);
    e.badBeyond("line measure", Edge::rich, 0, 2, (r, m) -> r.line(0, m, 1, 0));
    e.badBeyond("line n", Edge::rich, 1, 6, (r, n) -> r.line(0, 0, n, 0));
  }

  private static void lineNoLess() {
    e.of("SIZES are measures of FEET; each FOOT has the least SIZE that is no less than its own (give isn't asked); "
        + "the greatest SIZE is the greatest of all");
    lineIs(Edge.with("foot 5 1 1 give 9;foot 9 1 1 give 9"), 0, 1, 4, 9);
    lineIs(Edge.with("foot 5 1 1 give 9;foot 9 1 1 give 9"), 0, 2, 0, 5, 9);
    lineIs(Edge.with(feet(0)), 0, 1, 0, 0);
    lineIs(Edge.with(feet(30)), 0, 6, 0, 30);
    lineIs(Edge.with(feet(0, 30)), 0, 1, 30, 30);
    lineIs(Edge.with("foot 0 1 1 times 99;foot 30 1 1;waste 9 1 1"), 0, 1, 99 * 9 * 30, 30);
    lineIs(Edge.with(feet(30, 0, 15)), 0, 2, 15, 0, 30);
    lineIs(Edge.with(feet(8, 2, 8, 2)), 0, 1, 12, 8);
    NineLasts far = Edge.with("foot 1 1 1;foot 2 1 1;last 40 40 40;over 0 0 0;out 0");
    lineIs(far, 0, 1, 1, 2);
    NineLasts twelve = twelve("out 1");
    lineIs(twelve, 2, 1, 2 * 66, 11);
    // Twelve sizes in six pairs: each first one is 1 below, and counts twice.
    lineIs(twelve, 2, 6, 12, 1, 3, 5, 7, 9, 11);
  }

  private static void lineFewest() {
    e.of("LINE: the least sum ..; of several the fewest SIZES");
    lineIs(Edge.with(feet(1, 2, 3) + ";waste 0 1 1"), 0, 6, 0, 3);
    lineIs(Edge.with(feet(4, 4, 4)), 0, 6, 0, 4);
    lineIs(Edge.with(feet(4, 6)), 0, 6, 0, 4, 6);
    lineIs(Edge.with(feet(1, 2, 3, 4, 5, 6)), 0, 6, 0, 1, 2, 3, 4, 5, 6);
    lineIs(Edge.with(feet(1, 2, 3, 4, 5, 6)), 0, 5, 1, 1, 2, 3, 4, 6);
  }

  private static void lineLeast() {
    e.of("of these those that are least, compared one by one from the least SIZE on");
    lineIs(Edge.with(feet(1, 2, 3, 4, 5, 6, 7)), 0, 2, 9, 3, 7);
    lineIs(Edge.with(feet(1, 2, 3)), 0, 2, 1, 1, 3);
    lineIs(Edge.with(feet(3, 2, 1, 4)), 0, 3, 1, 1, 2, 4);
    // 2 5 7 and 3 5 7 are as good.
    lineIs(Edge.with(feet(1, 2, 3, 4, 5, 6, 7)), 0, 3, 5, 2, 4, 7);
    lineIs(Edge.with("foot 1 1 1 times 2;foot 2 1 1;foot 3 1 1"), 0, 2, 1, 1, 3);
    lineIs(Edge.with("foot 1 1 1;foot 2 1 1 times 2;foot 3 1 1"), 0, 2, 1, 2, 3);
  }

  private static void lineWhat() {
    e.of("LINE: the sum (what 0), how many SIZES (1), SIZE i (10 and i). BAD: no FEET, no such SIZE, too.");
    e.badFor("line what", () -> Edge.with(feet(1, 2, 3, 4, 5, 6, 7)), (x, w) -> x.line(0, 0, 6, w), -1, 2, 9, 16, 17, MIN, MAX);
    e.bad("SIZE 2 of two", () -> Edge.with(feet(1, 2, 3)), x -> x.line(0, 0, 2, 12));
    e.bad("SIZE 1 of one", () -> Edge.with(feet(4, 4)), x -> x.line(0, 0, 6, 11));
    for (int w : new int[] {0, 1, 10, 2}) e.bad("no feet, what " + w, () -> Edge.with("last 1 1 1"), x -> x.line(0, 0, 1, w));
  }

  private static void cornerIs(NineLasts x, int count, int... due) {
    e.due("corners(0)", x.corners(0), count);
    for (int w = 0; w < 5; w++) e.due("corner(0, " + w + ")", x.corner(0, w), due[w]);
  }

  private static void cornersCounted() {
    e.of("CORNERS: all L, B, H each of which some FOOT has");
    e.due("no feet", Edge.with("last 1 1 1").corners(0), 0);
    e.due("one foot", Edge.with("foot 0 0 0").corners(0), 1);
    e.due("feet alike", Edge.with("foot 30 30 30;foot 30 30 30").corners(0), 1);
    e.due("two in L", Edge.with("foot 1 5 5;foot 2 5 5").corners(0), 2);
    e.due("two in B", Edge.with("foot 1 5 5;foot 1 6 5").corners(0), 2);
    e.due("two in H", Edge.with("foot 1 5 5;foot 1 5 6").corners(0), 2);
    e.due("2 of 3 of 1", Edge.with("foot 1 5 5;foot 2 6 5;foot 2 7 5").corners(0), 6);
    e.due("twelve of each", twelve("out 1").corners(0), 1728);
  }

  private static void cornersNumbered() {
    e.of("numbered by L, then B, then H (the least first)");
    cornerIs(twelve("waste 0 0 0;over 30 30 30"), 1728, 1727, 0, 11, 11, 11);
    cornerIs(twelve("out 0"), 1728, 0, 0, 0, 0, 0);
    // The second foot pays most, and it alone can be shod.
    cornerIs(Edge.with("foot 9 3 7;foot 8 4 7 times 9;over 0 0 0"), 4, 1, 50, 8, 4, 7);
    cornerIs(Edge.with("foot 9 3 7 times 9;foot 8 4 7;over 0 0 0"), 4, 2, 50, 9, 3, 7);
    cornerIs(Edge.with("foot 9 3 6 times 9;foot 8 4 7;over 0 0 0"), 8, 4, 50, 9, 3, 6);
    cornerIs(Edge.with("foot 8 3 7 times 9;foot 9 4 6;over 0 0 0"), 8, 1, 50, 8, 3, 7);
    cornerIs(Edge.with("foot 8 4 6 times 9;foot 9 3 7;over 0 0 0"), 8, 2, 50, 8, 4, 6);
  }

  private static void cornerLeast() {
    e.of("CORNER of a valley: of all CORNERS that which, as the only LAST, with price 0, has the least TOTAL, of several the first.");
    cornerIs(Edge.with("foot 5 5 5;foot 9 9 9;over 0 0 0;last 5 5 5 price 9"), 8, 0, 50, 5, 5, 5);
    cornerIs(Edge.with("foot 5 5 5;foot 6 5 5;out 1"), 2, 0, 1, 5, 5, 5);
    cornerIs(Edge.with("foot 5 5 5;foot 6 5 5;out 2"), 2, 1, 1, 6, 5, 5);
    cornerIs(Edge.with("foot 5 5 5 times 3;foot 14 5 5;over 9 9 9;out 28"), 2, 1, 27, 14, 5, 5);
    cornerIs(Edge.with("foot 5 5 5 times 3;foot 14 5 5;over 8 9 9;out 28"), 2, 0, 28, 5, 5, 5);
    cornerIs(Edge.with("foot 5 5 5;foot 6 5 5 give 1"), 2, 0, 0, 5, 5, 5);
    cornerIs(Edge.with("foot 5 5 5;foot 5 6 5;foot 5 5 6;waste 1 2 3"), 4, 3, 5 + 3 + 2, 5, 6, 6);
    e.bad("corner of no feet", () -> Edge.with("last 1 1 1"), x -> x.corner(0, 0));
    e.badBeyond("corner what", Edge::rich, 0, 4, (x, w) -> x.corner(0, w));
  }

  private static void keepsYears() {
    e.of("LASTS (bits) that DO for a FOOT in all of the next n YEARS (1 to 9 ..)");
    NineLasts x = Edge.with("foot 10 10 10;last 10 10 10;last 11 10 10;last 12 10 10;last 18 10 10;last 19 10 10;last 20 10 10");
    int[] due = {0x1e, 0x1c, 0x18, 0x18, 0x18, 0x18, 0x18, 0x18, 0x10};
    for (int n = 1; n <= 9; n++) e.due("keeps(0, 0, " + n + ")", x.keeps(0, 0, n), due[n - 1]);
    e.due("nobody grew", x.footOf(0, 0, 0), 10);
    e.due("over 0: none", tenForTen().keeps(0, 9, 1), 0);
    e.due("without growing", Edge.with("foot 5 5 5;last 5 5 5;grow 0").keeps(0, 0, 9), 1);
    NineLasts gives = Edge.with("foot 10 10 10 give 2;last 10 10 10");
    e.due("as long as it gives", gives.keeps(0, 0, 2), 1);
    e.due("no longer", gives.keeps(0, 0, 3), 0);
    NineLasts tenth = Edge.with("foot 5 5 5" + ";last4 4 4".repeat(9) + ";last 6 5 5");
    e.due("the tenth", tenth.keeps(0, 0, 1), 512);
    e.due("no lasts", Edge.with("foot 1 1 1").keeps(0, 0, 1), 0);
    e.badBeyond("keeps n", Edge::rich, 1, 9, (y, n) -> y.keeps(0, 0, n));
  }

  private static void keepsTo30() {
    e.of("as year() has it (30 at most)");
    NineLasts x = Edge.with("foot 29 1 1;last 30 1 1;last 29 1 1;last 38 1 1;grow 9");
    e.due("L is 30 in one year", x.keeps(0, 0, 1), 5);
    e.due("and in nine", x.keeps(0, 0, 9), 5);
    NineLasts y = Edge.with("foot 30 1 1;last 30 1 1;last 29 1 1;grow 1");
    e.due("L is 30 and stays so", y.keeps(0, 0, 9), 1);
    NineLasts z = Edge.with("foot 12 1 1;last 29 1 1;last 30 1 1;grow 9;over 30 0 0");
    e.due("21", z.keeps(0, 0, 1), 3);
    e.due("30", z.keeps(0, 0, 2), 2);
    e.due("30 again", z.keeps(0, 0, 3), 2);
  }

  private static void keepsNow() {
    e.of("and now.");
    NineLasts x = Edge.with("foot 10 10 10;last 19 10 10;last 20 10 10;grow 1");
    e.due("one that would do next year alone", x.keeps(0, 0, 1), 1);
    x.year(0);
    e.due("next year", x.keeps(0, 0, 1), 3);
    e.due("B that does never", Edge.with("foot 10 10 10;last 12 9 10;last 12 10 10").keeps(0, 0, 1), 2);
  }

  private static NineLasts lenders() {
    return Edge.with("foot 10 10 10 times 2;last 12 10 10 price 1;over 2 2 2;out 20",
        "foot 20 20 20 times 3;last 11 11 10 price 4;last 23 20 20 price 5;waste 5 5 5;over 3 3 3;out 30");
  }

  private static void lends(NineLasts x, int set, int otherSet, int due) {
    e.due("lend(0, 1, " + set + ", " + otherSet + ")", x.lend(0, 1, set, otherSet), due);
    e.due("lend(1, 0, " + otherSet + ", " + set + ")", x.lend(1, 0, otherSet, set), due);
  }

  private static void lendBetter() {
    e.of("each FOOT having the better of its OWN ones of both sets (by BADNESS ..), PRICES of both");
    NineLasts x = lenders();
    lends(x, 0, 0, 40 + 90);
    lends(x, 1, 0, 4 + 90 + 1);
    lends(x, 0, 1, 4 + 90 + 4);
    lends(x, 1, 1, 4 + 90 + 1 + 4);
    lends(x, 0, 2, 40 + 45 + 5);
    lends(x, 1, 3, 4 + 45 + 1 + 9);
    x.carve(1, 0, 1, 10);
    lends(x, 1, 1, 2 + 90 + 1 + 4);
    NineLasts none = Edge.with("out 1", "last 1 1 1 price 9");
    lends(none, 0, 1, 9);
    lends(none, 0, 0, 0);
    NineLasts many = twelve("last 11 11 11;over 0 0 0;out 3");
    Checks.tell(many, "foot 0 0 0 times 5;foot 11 11 11 times 4;foot 2 2 2;last 0 0 0;over 0 0 0;out 7");
    many.valley();
    lends(many, 0, 0, 12 * 6 + 10 * 7);
    lends(many, 1, 0, 11 * 6 + 6 * 7);
    lends(many, 0, 1, 11 * 6 + 5 * 7);
    lends(many, 1, 1, 10 * 6 + 1 * 7);
    NineLasts dear = Edge.with("foot 5 5 5;last 5 5 5 price 99;out 1", "last 6 5 5");
    lends(dear, 1, 1, 99);
    lends(dear, 0, 1, 1);
  }

  private static void lendWasteAndOver() {
    e.of("a LAST of the other valley does with waste and over of the FOOT's own valley");
    NineLasts x = lenders();
    x.carve(1, 0, 1, 10);
    x.carve(1, 0, 0, 12);
    lends(x, 0, 1, 4 + 90 + 4);
    x.carve(1, 0, 0, 13);
    lends(x, 0, 1, 40 + 90 + 4);
    for (int m = 0; m < 3; m++) x.carve(0, 0, m, 20);
    x.carve(0, 0, 0, 23);
    lends(x, 1, 0, 40 + 3 * 5 * 3 + 1);
    x.carve(0, 0, 0, 24);
    lends(x, 1, 0, 40 + 90 + 1);
  }

  private static void lendToItself() {
    e.of("BAD: one and itself, too.");
    e.bad("0 to 0", Edge::rich, x -> x.lend(0, 0, 0, 0));
    e.bad("1 to 1", Edge::rich, x -> x.lend(1, 1, 1, 1));
    NineLasts x = Edge.fourValleys();
    for (int v = 0; v < 4; v++)
      for (int w = 0; w < 4; w++) e.due("lend(" + v + ", " + w + ", 0, 0)", x.lend(v, w, 0, 0), v == w ? -2 : 0);
  }

  private static void moreBrings() {
    e.of("TOTAL of BEST of n less that of BEST of n and 1 (n 0 to 9).");
    NineLasts x = tenForTen();
    for (int n = 0; n <= 9; n++) e.due("more(0, " + n + ")", x.more(0, n), 50);
    NineLasts one = Edge.with("foot 5 5 5 times 2;last 5 5 5 price 3;out 9");
    e.due("the first", one.more(0, 0), 15);
    for (int n = 1; n <= 9; n++) e.due("no more", one.more(0, n), 0);
    e.due("no lasts", Edge.with("foot 1 1 1").more(0, 9), 0);
    e.badBeyond("more of", Edge::rich, 0, 9, (y, n) -> y.more(0, n));
    e.bad("more of 10", ChoiceEdgeTest::tenForTen, y -> y.more(0, 10));
  }

  private static void enoughOf() {
    e.of("The least n by which TOTAL of BEST of n is v at most; NONE: none. BAD: v below 0.");
    NineLasts x = tenForTen();
    int[][] due = {{500, 0}, {501, 0}, {MAX, 0}, {499, 1}, {450, 1}, {449, 2}, {50, 9}, {49, 10}, {1, 10}, {0, 10}};
    for (int[] d : due) e.due("enough(0, " + d[0] + ")", x.enough(0, d[0]), d[1]);
    NineLasts dear = Edge.with("foot 5 5 5;last 5 5 5 price 3");
    e.due("3", dear.enough(0, 3), 1);
    e.due("2", dear.enough(0, 2), -1);
    e.due("0", dear.enough(0, 0), -1);
    e.due("NONE is not refused", dear.status(12), 0);
    e.due("no feet", Edge.with("last 1 1 1").enough(0, 0), 0);
    e.badFor("enough", Edge::rich, (y, v) -> y.enough(0, v), -1, -2, MIN);
  }

  private static void doubts() {
    e.of("DOUBT of n: over all FEET: the BEST of n without that FOOT is chosen; by how much its times BADNESS (or out) by that "
        + "is above that by BEST of n of all; all together (0 at least of each)");
    NineLasts x = Edge.with("foot 5 5 5;foot 9 9 9;last 5 5 5;last 9 9 9;out 30;over 1 1 1");
    e.due("of 0", x.doubt(0, 0), 0);
    // BEST of 1 is {0}; without the first foot it is {1}, without the second {0}.
    e.due("of 1", x.doubt(0, 1), 30);
    for (int n = 2; n <= 10; n++) e.due("of " + n, x.doubt(0, n), 60);
    x.alter(0, 0, 0, 4);
    e.due("by times", x.doubt(0, 2), 150);
    e.due("one foot alone", Edge.with("foot 5 5 5 times 3;last 6 5 5;out 9").doubt(0, 1), 27 - 3);
    e.due("one whom nobody shoes", Edge.with("foot 5 5 5;last 1 1 1").doubt(0, 10), 0);
    e.due("one that doesn't pay", Edge.with("foot 5 5 5;last 5 5 5 price 50").doubt(0, 10), 0);
    e.due("another one of the same", Edge.with("foot 5 5 5;foot 5 5 5;last 6 5 5;last 5 5 5").doubt(0, 1), 0);
    // Without the second foot both lasts are as good and LAST 0 is chosen, by which that foot is worse by 1, three times.
    NineLasts y = Edge.with("foot 5 5 5 give 1;foot 5 5 4 times 3;last 5 5 5;last 5 5 4");
    e.due("BADNESS above BADNESS", y.doubt(0, 1), 3);
    // The first two are alike, 4 and 2 of them, the third is another, 5: without one of the first the third is chosen.
    NineLasts alike = Edge.with("foot 1 1 1 times 4;foot 1 1 1 times 2;foot 9 9 9 times 5;last 9 9 9;last 1 1 1;over 0 0 0");
    e.due("one at most, with that foot and without", alike.doubt(0, 1), 4 * 50 + 2 * 50);
    e.due("two at most", alike.doubt(0, 2), 5 * 50);
    e.due("no feet", Edge.with("last 1 1 1").doubt(0, 10), 0);
    e.due("no lasts", Edge.with("foot 1 1 1").doubt(0, 10), 0);
    e.due("ten for ten", tenForTen().doubt(0, 10), 500);
    e.due("twelve, one of whom is measured in vain", twelve("last 11 11 11;over 0 0 0").doubt(0, 1), 100);
    e.badBeyond("doubt of", Edge::rich, 0, 10, (z, n) -> z.doubt(0, n));
  }

  /** All that a valley is asked for as a whole; the corner ahead of how many there are. */
  private static String all(NineLasts x) {
    StringBuilder all = new StringBuilder();
    for (int w = 0; w < 5; w++) all.append(' ').append(x.corner(0, w));
    all.append(' ').append(x.corners(0)).append(" | ").append(x.bound(0)).append(' ').append(x.idle(0));
    for (int n = 0; n <= 3; n++) {
      all.append(" | ").append(x.fair(0, n)).append(' ').append(x.shod(0, n)).append(' ').append(x.best(0, n));
      all.append(' ').append(x.more(0, n)).append(' ').append(x.doubt(0, n)).append(' ').append(x.enough(0, 40 * n));
    }
    for (int set = 0; set < 4; set++) all.append(' ').append(x.changed(0, set));
    for (int m = 0; m < 3; m++) all.append(" | ").append(x.line(0, m, 2, 0)).append(' ').append(x.line(0, m, 2, 10));
    return all.toString();
  }

  private static void sameAs(String what, NineLasts x, String text) {
    String got = all(x);
    String want = all(Edge.with(text));
    e.due(what + ":" + got + " is as" + want, got.equals(want) ? 1 : 0, 1);
  }

  private static void asItIs() {
    e.of("(a VALLEY is asked as it is now: nothing of an earlier answer stays)");
    NineLasts x = Edge.with("foot 5 5 5 times 2;foot 9 9 9;last 5 5 5;last 8 8 8;over 4 4 4");
    sameAs("at first", x, "foot 5 5 5 times 2;foot 9 9 9;last 5 5 5;last 8 8 8;over 4 4 4");
    x.carve(0, 1, 0, 9);
    x.carve(0, 1, 1, 9);
    x.carve(0, 1, 2, 9);
    sameAs("carved", x, "foot 5 5 5 times 2;foot 9 9 9;last 5 5 5;last 9 9 9;over 4 4 4");
    x.carve(0, 0, 3, 30);
    x.alter(0, 0, 0, 5);
    sameAs("dearer, and more", x, "foot 5 5 5 times 5;foot 9 9 9;last 5 5 5 price 30;last 9 9 9;over 4 4 4");
    x.image();
    Checks.fill(x, 0, 0, 20, 20, 20, 9);
    x.feet(0, 0);
    sameAs("a foot more", x, "foot 5 5 5 times 5;foot 9 9 9;foot 20 20 20 times 9;last 5 5 5 price 30;last 9 9 9;over 4 4 4");
    x.back();
    sameAs("a foot less", x, "foot 5 5 5 times 5;foot 9 9 9;last 5 5 5 price 30;last 9 9 9;over 4 4 4");
    x.build(0, 0, 1);
    sameAs("a last more", x, "foot 5 5 5 times 5;foot 9 9 9;last 5 5 5 price 30;last 9 9 9;last 6 6 6 price 31;over 4 4 4");
    x.back();
    x.year(0);
    x.alter(0, 0, 1, 1);
    sameAs("a last less, a year later", x, "foot 6 5 5 times 5 give 1;foot 10 9 9;last 5 5 5 price 30;last 9 9 9;over 4 4 4");
    NineLasts two = Edge.with("foot 5 5 5;last 14 5 5;last 5 5 5", "foot 5 5 5;last 6 5 5;last 7 5 5", "foot 9 9 9;last 1 1 1", "last 1 1 1");
    e.due("fair of one valley", two.fair(0, 1), 2);
    e.due("fair of another", two.fair(1, 1), 1);
    for (int i = 0; i < 3; i++) e.due("nobody is shod", two.shod(2, 1), 0);
    for (int i = 0; i < 2; i++) e.due("nobody is there", two.fair(3, 0), 0);
  }

  private static void idles() {
    e.of("The first LAST that is of no BEST of n, for all n from 0 to 10; NONE.");
    e.due("no lasts", Edge.with("foot 1 1 1").idle(0), -1);
    e.due("no feet", Edge.with("last 1 1 1;last 2 2 2").idle(0), 0);
    e.due("all ten, the last of which BEST of 10 alone has", tenForTen().idle(0), -1);
    NineLasts ten = tenForTen();
    ten.carve(0, 9, 3, 50);
    e.due("the tenth", ten.idle(0), 9);
    ten.carve(0, 4, 3, 50);
    e.due("the first of two", ten.idle(0), 4);
    ten.carve(0, 0, 3, 50);
    e.due("the very first", ten.idle(0), 0);
    // BEST of 1 is {0}, of more {1, 2}.
    NineLasts x = Edge.with("foot 5 5 5;foot 6 5 5;last 6 6 5;last 5 5 5;last 7 5 5;over 1 9 9;waste 1 2 1");
    e.due("best of 1", x.best(0, 1), 1);
    e.due("best of 2", x.best(0, 2), 6);
    e.due("best of 10", x.best(0, 10), 6);
    e.due("each in one of them", x.idle(0), -1);
    e.due("NONE is not refused", x.status(12) + x.status(15), 0);
  }

  public static void main(String[] args) {
    noLess();
    noMore();
    wasteOfAllThree();
    notAbove();
    whetherItDoes();
    lastsAlone();
    ownOne();
    totals();
    outBits();
    judgeOwn();
    judgeOthers();
    judgeMissing();
    bestOfAtMost();
    bestByBits();
    changedLess();
    changedLeast();
    changedFirstOut();
    changedFirstIn();
    bounds();
    fairNobodyOut();
    fairLeastGreatest();
    fairLeastTotal();
    shodFewest();
    shodLeastTotal();
    lineSizes();
    lineNoLess();
    lineFewest();
    lineLeast();
    lineWhat();
    cornersCounted();
    cornersNumbered();
    cornerLeast();
    keepsYears();
    keepsTo30();
    keepsNow();
    lendBetter();
    lendWasteAndOver();
    lendToItself();
    moreBrings();
    enoughOf();
    doubts();
    idles();
    asItIs();
    e.end("ChoiceEdgeTest");
  }
}
