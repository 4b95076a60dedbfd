/** The boundary cases of promises 42 to 46, a going-through, image and back, where they are not refusals. */
public final class GoingEdgeTest {
  private static final Edge e = new Edge();

  /** Three lasts; totals of the sets 0 to 7: 100, 58, 52, 10, 55, 60, 7, 12. */
  private static NineLasts three() {
    return Edge.with("foot 5 5 5;foot 9 9 9;last 5 5 5 price 8;last 9 9 9 price 2;last 6 6 6 price 2;over 1 1 1");
  }

  private static NineLasts threeBegun(int n, int k) {
    NineLasts x = three();
    x.begin(0, n);
    if (k > 0) x.step(k);
    return x;
  }

  private static void searchIs(String what, NineLasts x, int... due) {
    for (int w = 0; w < 5; w++) e.due("search(" + w + ") " + what, x.search(w), due[w]);
  }

  private static void beginCounts() {
    e.of("A GOING-THROUGH of sets of n LASTS at most is under way, from set 0 on: how many sets there are in all.");
    NineLasts x = three();
    for (int n : new int[] {0, 1, 10}) {
      e.due("begin(0, " + n + ")", x.begin(0, n), 8);
      searchIs("just begun", x, 0, n, 0, -1, 0);
    }
    e.due("no lasts", Edge.with("foot 1 1 1").begin(0, 10), 1);
    e.due("ten lasts", Edge.tenLasts().begin(0, 0), 1024);
    e.due("one last", Edge.with("last 1 1 1").begin(0, 0), 2);
    NineLasts four = Edge.fourValleys();
    e.due("the fourth valley", four.begin(3, 0), 1);
    e.due("its number", four.search(0), 3);
    e.badBeyond("begin of", Edge::rich, 0, 10, (y, n) -> y.begin(0, n));
  }

  private static void asItIsNow() {
    e.of("of the VALLEY as it is now");
    NineLasts x = three();
    x.begin(0, 3);
    x.alter(0, 0, 0, 99);
    x.alter(0, 0, 1, 9);
    x.carve(0, 1, 3, 99);
    x.build(0, 2, 1);
    x.year(0);
    Checks.fill(x, 0, 0, 1, 1, 1, 9);
    x.feet(0, 0);
    e.due("the first three", x.step(3), 52);
    e.due("the others", x.step(999), 7);
    searchIs("at the end", x, 0, 3, 8, 6, 1);
    e.due("begun anew it is as it is then", x.begin(0, 3), 16);
    e.due("set 0 of it", x.step(1), 99 * 50 + 50 + 9 * 50);
  }

  private static void givenUp() {
    e.of("(another one is given up)");
    NineLasts x = Edge.with("foot 1 1 1;last 1 1 1;out 7", "out 1;last 2 2 2;last 3 3 3");
    x.begin(0, 1);
    x.step(2);
    searchIs("done", x, 0, 1, 2, 1, 1);
    e.due("another one", x.begin(1, 0), 4);
    searchIs("of the other", x, 1, 0, 0, -1, 0);
    e.due("a step of it", x.step(1), 0);
    e.due("the first again", x.begin(0, 1), 2);
    searchIs("from the start", x, 0, 1, 0, -1, 0);
  }

  private static void stepsCounted() {
    e.of("The next k sets (1 to 999 ..) are looked at");
    NineLasts x = Edge.with("foot 9 1 1" + ";last1 1 1".repeat(9) + ";last9 1 1");
    x.begin(0, 10);
    e.due("999", x.step(999), 0);
    searchIs("after 999", x, 0, 10, 999, 512, 0);
    e.due("1", x.step(1), 0);
    searchIs("after 1000", x, 0, 10, 1000, 512, 0);
    e.due("23", x.step(23), 0);
    searchIs("all but one", x, 0, 10, 1023, 512, 0);
    e.due("the last", x.step(1), 0);
    searchIs("all", x, 0, 10, 1024, 512, 1);
    NineLasts y = Edge.with("foot 9 1 1" + ";last1 1 1".repeat(9) + ";last9 1 1");
    y.begin(0, 10);
    e.due("512", y.step(512), 50);
    e.due("not looked at yet", y.search(3), 0);
    e.due("one more", y.step(1), 0);
    e.due("the set", y.search(3), 512);
    e.badBeyond("step", Edge::rich, 1, 999, (r, k) -> r.step(k));
  }

  private static void stepsTillTheLast() {
    e.of("till the last");
    for (int k : new int[] {8, 9, 999}) {
      NineLasts x = threeBegun(3, 0);
      e.due("step(" + k + ")", x.step(k), 7);
      searchIs("by " + k, x, 0, 3, 8, 6, 1);
    }
    NineLasts x = threeBegun(3, 7);
    searchIs("by 7", x, 0, 3, 7, 6, 0);
    e.due("one more than the last", x.step(2), 7);
    searchIs("then", x, 0, 3, 8, 6, 1);
    NineLasts none = Edge.with("foot 1 1 1;out 9");
    none.begin(0, 0);
    e.due("set 0 alone", none.step(1), 9);
    searchIs("then", none, 0, 0, 1, 0, 1);
  }

  private static void stepsWithMoreLasts() {
    e.of("(.. those with more LASTS, too): the least TOTAL so far of those that count");
    NineLasts x = threeBegun(1, 0);
    int[] due = {100, 58, 52, 52, 52, 52, 52, 52};
    int[] sets = {0, 1, 2, 2, 2, 2, 2, 2};
    for (int i = 0; i < 8; i++) {
      e.due("step " + i, x.step(1), due[i]);
      searchIs("after step " + i, x, 0, 1, i + 1, sets[i], i == 7 ? 1 : 0);
    }
    NineLasts two = threeBegun(2, 0);
    int[] dueOfTwo = {100, 58, 52, 10, 10, 10, 7, 7};
    for (int i = 0; i < 8; i++) e.due("of two, step " + i, two.step(1), dueOfTwo[i]);
    NineLasts zero = threeBegun(0, 0);
    e.due("of none", zero.step(999), 100);
    searchIs("of none", zero, 0, 0, 8, 0, 1);
    NineLasts tie = Edge.with("foot 5 5 5;last 5 5 5;last 5 5 5");
    tie.begin(0, 2);
    tie.step(4);
    e.due("of several the first", tie.search(3), 1);
  }

  private static void stepStuck() {
    e.of("STUCK: none is under way, it is done. (step)");
    e.stuck("none", GoingEdgeTest::three, x -> x.step(1));
    e.stuck("a new object", NineLasts::new, x -> x.step(999));
    e.stuck("done", () -> threeBegun(3, 8), x -> x.step(1));
    e.stuck("done by more", () -> threeBegun(3, 999), x -> x.step(999));
    e.due("not done yet", threeBegun(3, 7).step(1), 7);
  }

  private static void searchTells() {
    e.of("Of it: VALLEY (0), n (1), the set that is next (2), the best so far (3; NONE), 1 if it is done (4).");
    searchIs("begun", threeBegun(2, 0), 0, 2, 0, -1, 0);
    searchIs("one step", threeBegun(2, 1), 0, 2, 1, 0, 0);
    searchIs("all but one", threeBegun(2, 7), 0, 2, 7, 6, 0);
    searchIs("done", threeBegun(2, 8), 0, 2, 8, 6, 1);
    NineLasts x = threeBegun(10, 3);
    for (int i = 0; i < 3; i++) searchIs("asked again", x, 0, 10, 3, 2, 0);
    e.badBeyond("search", Edge::rich, 0, 4, (y, w) -> y.search(w));
  }

  private static void searchStuck() {
    e.of("STUCK: none is under way. (search)");
    for (int w = 0; w <= 4; w++) {
      int what = w;
      e.stuck("search(" + w + ")", GoingEdgeTest::three, x -> x.search(what));
      e.due("one that is done is still told", threeBegun(1, 8).search(w), new int[] {0, 1, 8, 2, 1}[w]);
    }
  }

  private static void imageKeeps() {
    e.of("All is kept ..: 1. All is again as it was kept: 1.");
    NineLasts x = three();
    x.begin(0, 3);
    x.step(3);
    e.due("image()", x.image(), 1);
    searchIs("image() changes nothing", x, 0, 3, 3, 2, 0);
    Checks.tell(x, "foot 3 3 3");
    x.valley();
    x.alter(0, 0, 0, 9);
    x.alter(0, 1, 1, 9);
    x.carve(0, 0, 0, 33);
    x.carve(0, 2, 3, 33);
    x.build(0, 0, 1);
    x.year(0);
    Checks.fill(x, 0, 0, 1, 1, 1, 9);
    x.feet(0, 0);
    x.begin(1, 0);
    x.step(1);
    e.due("back()", x.back(), 1);
    e.due("valleys", x.status(0), 1);
    e.due("feet", x.valleyOf(0, 0), 2);
    e.due("lasts", x.valleyOf(0, 1), 3);
    int[] totals = {100, 58, 52, 10, 55, 60, 7, 12};
    for (int set = 0; set < 8; set++) e.due("total of " + set, x.total(0, set), totals[set]);
    searchIs("again", x, 0, 3, 3, 2, 0);
    e.due("it goes on", x.step(999), 7);
    e.due("set", x.search(3), 6);
  }

  private static void imageKeepsNot() {
    e.of("but THE TAPE, SHELVES and status()");
    NineLasts x = three();
    Checks.tell(x, "out 5");
    Checks.fill(x, 0, 2, 1);
    x.tool(1, 2, 0, 3);
    x.row(8, 0, 0);
    x.image();
    Checks.tell(x, "5;grow 3");
    x.set(0, 0, 9);
    x.tool(1, 3, 1, 4);
    x.row(2, 0, 0);
    x.row(8, 0, 0);
    x.set(7, 0, 0);
    x.back();
    e.due("the tape's size", x.status(1), 13);
    e.due("the tape", x.valley(), 1);
    e.due("out", x.valleyOf(1, 3), 55);
    e.due("an element", x.element(0, 0), 9);
    e.due("a tool", x.holds(1), 13);
    e.due("its a", x.says(1, 3), 4);
    e.due("a shelf filled later", x.holds(2), 0);
    e.due("shelves", x.status(2), 3);
    e.due("BAD", x.status(12), 2);
    e.due("NOTHING", x.status(14), 1);
  }

  private static void backStuck() {
    e.of("STUCK: nothing was. (back)");
    e.stuck("a new object", NineLasts::new, x -> x.back());
    e.stuck("a valley", GoingEdgeTest::three, x -> x.back());
    NineLasts x = new NineLasts();
    x.image();
    e.due("once something was", x.back(), 1);
  }

  private static void backToNothing() {
    e.of("All is again as it was kept (no VALLEYS, none under way)");
    NineLasts x = new NineLasts();
    x.image();
    for (int i = 0; i < 4; i++) {
      Checks.tell(x, "out " + i + ";last 1 1 1");
      x.valley();
    }
    x.begin(3, 1);
    e.due("back()", x.back(), 1);
    e.due("valleys", x.status(0), 0);
    e.due("valley 0", x.valleyOf(0, 0), -2);
    e.due("none is under way", x.search(0), -5);
    e.due("none to step", x.step(1), -5);
    Checks.tell(x, "out 9");
    e.due("the next is the first", x.valley(), 0);
    e.due("out", x.valleyOf(0, 3), 9);
    e.due("lasts", x.valleyOf(0, 1), 0);
  }

  private static void backAgain() {
    e.of("All is again as it was kept (once more, and by the later image)");
    NineLasts x = Edge.fourValleys();
    x.image();
    for (int i = 0; i < 2; i++) {
      Checks.fill(x, 0, 0, 1, 1, 1, 1);
      e.due("a foot more", x.feet(3, 0), 1);
      x.begin(3, 0);
      e.due("back()", x.back(), 1);
      e.due("no foot", x.valleyOf(3, 0), 0);
      e.due("none is under way", x.search(0), -5);
    }
    x.feet(2, 0);
    x.image();
    x.feet(2, 0);
    x.back();
    e.due("the later image", x.valleyOf(2, 0), 1);
    NineLasts least = threeBegun(3, 3);
    least.image();
    e.due("till the end", least.step(999), 7);
    least.back();
    e.due("the least as it was kept", least.step(1), 10);
    NineLasts done = threeBegun(3, 8);
    done.image();
    done.begin(0, 1);
    done.back();
    searchIs("one that was done", done, 0, 3, 8, 6, 1);
    e.due("is done", done.step(1), -5);
  }

  private static void backKeepsTheSnapshot() {
    e.of("All is again as it was kept (the VALLEY of the GOING-THROUGH, too)");
    NineLasts x = three();
    x.begin(0, 3);
    x.carve(0, 0, 3, 99);
    x.image();
    Checks.tell(x, "out 1;last 9 9 9");
    x.valley();
    x.begin(1, 1);
    x.back();
    e.due("as it was when it began", x.step(2), 58);
    e.due("not as it is now", x.total(0, 1), 149);
  }

  public static void main(String[] args) {
    beginCounts();
    asItIsNow();
    givenUp();
    stepsCounted();
    stepsTillTheLast();
    stepsWithMoreLasts();
    stepStuck();
    searchTells();
    searchStuck();
    imageKeeps();
    imageKeepsNot();
    backStuck();
    backToNothing();
    backAgain();
    backKeepsTheSnapshot();
    e.end("GoingEdgeTest");
  }
}
