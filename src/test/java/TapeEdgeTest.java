/** The boundary cases of 'Terms: VALLEYS' and of promises 11 to 21, where they are not refusals. */
public final class TapeEdgeTest {
  private static final Edge e = new Edge();
  private static final int MIN = Edge.MIN, MAX = Edge.MAX;

  /** The tape has a fault at a place; it is refused as BAD, and the tape is empty then. */
  private static void fault(String text, int place) {
    NineLasts x = new NineLasts();
    Checks.tell(x, text);
    e.due("valley of '" + text + "'", x.valley(), -20 - place);
    e.due("valleys by '" + text + "'", x.status(0), 0);
    e.due("the tape by '" + text + "'", x.status(1), 0);
  }

  /** The tape is a valley; what one call tells of it. */
  private static NineLasts fine(String text) {
    NineLasts x = new NineLasts();
    Checks.tell(x, text);
    e.due("valley of '" + text + "'", x.valley(), 0);
    return x;
  }

  private static void footIs(String text, int... due) {
    NineLasts x = fine(text);
    for (int w = 0; w < 5; w++) e.due("footOf(0, 0, " + w + ") by '" + text + "'", x.footOf(0, 0, w), due[w]);
  }

  private static void lastIs(String text, int... due) {
    NineLasts x = fine(text);
    for (int w = 0; w < 4; w++) e.due("lastOf(0, 0, " + w + ") by '" + text + "'", x.lastOf(0, 0, w), due[w]);
  }

  /** What valleyOf tells from a number on. */
  private static void valleyIs(String text, int from, int... due) {
    NineLasts x = fine(text);
    for (int w = 0; w < due.length; w++)
      e.due("valleyOf(0, " + (from + w) + ") by '" + text + "'", x.valleyOf(0, from + w), due[w]);
  }

  private static void fourValleys() {
    e.of("VALLEYS have numbers, 0 on, 4 at most");
    NineLasts x = new NineLasts();
    for (int v = 0; v < 4; v++) {
      e.due("not there yet", x.valleyOf(v, 3), -2);
      Checks.tell(x, "out " + (10 + v));
      e.due("valley()", x.valley(), v);
      e.due("valleyOf(" + v + ", 3)", x.valleyOf(v, 3), 10 + v);
    }
    e.due("four", x.status(0), 4);
    Checks.tell(x, "out 9");
    e.due("a fifth", x.valley(), -6);
    e.due("there is none", x.valleyOf(4, 3), -2);
    for (int v = 0; v < 4; v++) e.due("the others stay", x.valleyOf(v, 3), 10 + v);
  }

  private static void tapeOf(int size, String end) {
    String text = " ".repeat(size - end.length()) + end;
    NineLasts x = new NineLasts();
    e.due("feed up to " + size, Checks.tell(x, text), size);
    e.due("valley by all of it", x.valley(), 0);
    e.due("its end was read", x.valleyOf(0, 3), 7);
  }

  private static void tapeOf250() {
    e.of("THE TAPE (bytes, 250 at most)");
    tapeOf(249, "out 7");
    tapeOf(250, "out 7");
    for (int n = 1; n <= 4; n++) {
      int size = n;
      NineLasts x = new NineLasts();
      Checks.tell(x, " ".repeat(250 - n));
      e.due("feed of " + n + " up to 250", x.feed(0x20202020, n), 250);
      e.full("feed of " + n + " above 250", () -> {
        NineLasts y = new NineLasts();
        Checks.tell(y, " ".repeat(251 - size));
        return y;
      }, y -> y.feed(0x20202020, size));
    }
    fault(" ".repeat(245) + "out x", 249);
    fault(" ".repeat(249) + "x", 249);
    fault(" ".repeat(250), 250);
    fault("out 7;" + " ".repeat(244), 250);
  }

  private static void bytes() {
    e.of("THE TAPE (bytes ..): a byte that begins none");
    for (int b = 0; b < 256; b++) {
      boolean begins = b == 32 || b == ';' || b >= '0' && b <= '9' || b >= 'a' && b <= 'z';
      if (begins) continue;
      fault("" + (char) b, 0);
      fault("out 5" + (char) b, 5);
      fault("out " + (char) b, 4);
    }
  }

  private static void longTokens() {
    e.of("TOKENS, each as long as can be");
    fault("outs 5", 0);
    fault("outout 5", 0);
    fault("out 5;growgrow 1", 6);
    fault("out 123", 4);
    fault("foot 123", 5);
    fault("foot 1 234", 7);
    fault("foot 1 1 1 timesgive 3", 11);
    valleyIs("out12", 3, 12);
    footIs("foot1 2 3times4give5", 1, 2, 3, 4, 5);
    lastIs("last1 2 3price4", 1, 2, 3, 4);
    valleyIs("out5;grow6;waste1 2 3;over4 5 6", 3, 5, 6, 1, 2, 3, 4, 5, 6);
  }

  private static void words() {
    e.of("WORDS (a .. z)");
    // a and z go on with the word, which is another then; what stands beside them in the table of bytes ends it.
    fault("outa 5", 0);
    fault("outz 5", 0);
    fault("out` 5", 3);
    fault("out{ 5", 3);
    fault("aout 5", 0);
    fault("zout 5", 0);
    fault("out 5;Out 6", 6);
    fault("oUt 5", 0);
    fault("out 5a", 5);
    fault("out 5z", 5);
    for (String word : new String[] {"fot", "foo", "lasts", "lest", "vaste", "wast", "ever", "ove", "ou", "aut", "gro", "frow", "times", "give", "price"})
      fault(word + " 1 1 1", 0);
  }

  private static void numbers() {
    e.of("NUMBERS (digits)");
    fault("out /", 4);
    fault("out :", 4);
    fault("out 5/", 5);
    fault("out 5:", 5);
    fault("out -5", 4);
    fault("out +5", 4);
    fault("out five", 4);
    fault("5", 0);
    for (int d = 0; d <= 9; d++) {
      valleyIs("out " + d, 3, d);
      valleyIs("out " + d + "0", 3, 10 * d);
      valleyIs("out 1" + d, 3, 10 + d);
    }
  }

  private static void blanks() {
    e.of("blanks (32) may stand anywhere between");
    footIs("  foot   1  2   3   times    4   give   5   ;   out  9  ", 1, 2, 3, 4, 5);
    valleyIs("out 1 ;out 2; out 3 ; out 4", 3, 4);
    fault("ou t 5", 0);
    fault("foot 1 1 1 ti mes 3", 11);
    fault("out 1 2", 6);
    for (char no : new char[] {0, 9, 10, 13, 31, 33, 160}) {
      fault("out" + no + "5", 3);
      fault(no + "out 5", 0);
      fault("out 5" + no + ";out 6", 5);
    }
  }

  private static void statements() {
    e.of("STATEMENTS, one or more, with ; between");
    fault("", 0);
    fault(" ", 1);
    fault(";", 0);
    fault(" ;", 1);
    fault("out 5;", 6);
    fault("out 5; ", 7);
    fault(";out 5", 0);
    fault("out 5;;out 6", 6);
    fault("out 5 ; ; out 6", 8);
    fault("out 5 out 6", 6);
    fault("out 5out 6", 5);
    valleyIs("out 5", 3, 5);
    valleyIs("out 5;out 6", 3, 6);
    valleyIs("out5;".repeat(49) + "out 6", 3, 6);
  }

  /** Numbers of a statement one by one at the least and the greatest that may be, and just beyond. */
  private static void three(String word, int most, String rest) {
    String[] texts = {word + " %d 1 1" + rest, word + " 1 %d 1" + rest, word + " 1 1 %d" + rest};
    for (int m = 0; m < 3; m++) {
      fine(texts[m].formatted(0));
      fine(texts[m].formatted(most));
      fault(texts[m].formatted(most + 1), word.length() + 1 + 2 * m);
      fault(texts[m].formatted(99), word.length() + 1 + 2 * m);
    }
  }

  private static void footMeasures() {
    e.of("foot L B H (0 to 30 each)");
    footIs("foot 0 0 0", 0, 0, 0, 1, 0);
    footIs("foot 30 30 30", 30, 30, 30, 1, 0);
    footIs("foot 0 30 1", 0, 30, 1, 1, 0);
    three("foot", 30, "");
    three("foot", 30, " times 2 give 3");
  }

  private static void footTimes() {
    e.of("perhaps times N (1 to 99)");
    footIs("foot 1 2 3 times 1", 1, 2, 3, 1, 0);
    footIs("foot 1 2 3 times 01", 1, 2, 3, 1, 0);
    footIs("foot 1 2 3 times 99", 1, 2, 3, 99, 0);
    fault("foot 1 2 3 times 0", 17);
    fault("foot 1 2 3 times 00", 17);
    fault("foot 1 2 3 times 100", 17);
    fault("foot 1 2 3 times 2 times 2", 19);
    fault("foot 1 2 3;times 2", 11);
  }

  private static void footGive() {
    e.of("then perhaps give N (0 to 9)");
    footIs("foot 1 2 3 give 0", 1, 2, 3, 1, 0);
    footIs("foot 1 2 3 give 9", 1, 2, 3, 1, 9);
    footIs("foot 1 2 3 times 99 give 9", 1, 2, 3, 99, 9);
    fault("foot 1 2 3 give 10", 16);
    fault("foot 1 2 3 times 2 give 10", 24);
    fault("foot 1 2 3 give 2 times 2", 18);
    fault("foot 1 2 3 give 2 give 2", 18);
    fault("foot 1 2 3 price 2", 11);
  }

  private static void footsDefaults() {
    e.of("a FOOT more (.. once, give 0 if not told)");
    footIs("foot 4 5 6", 4, 5, 6, 1, 0);
    footIs("foot 4 5 6 give 3", 4, 5, 6, 1, 3);
    footIs("foot 4 5 6 times 3", 4, 5, 6, 3, 0);
    NineLasts x = fine("foot 4 5 6 times 7 give 8;foot 1 2 3");
    e.due("times of the second", x.footOf(0, 1, 3), 1);
    e.due("give of the second", x.footOf(0, 1, 4), 0);
  }

  private static void twelveFeet() {
    e.of("a FOOT more (12 at most ..); a FOOT .. too many: its word");
    String twelve = "foot1 2 3;".repeat(12);
    valleyIs(twelve + "out 7", 0, 12, 0, 12, 7);
    valleyIs(twelve + "last 1 1 1", 0, 12, 1, 12);
    fault(twelve + "foot 1 2 3", 120);
    fault(twelve + "  foot 1 2 3", 122);
    fault(twelve + "foot x", 120);
    fault(twelve + "foot", 120);
    fault(twelve + "out 7;foot 31 0 0", 126);
    fault(twelve + "foots", 120);
    fault("foot1 2 3;".repeat(11) + "foot 1 2", 118);
  }

  private static void lastMeasures() {
    e.of("last L B H (0 to 40 each)");
    lastIs("last 0 0 0", 0, 0, 0, 0);
    lastIs("last 40 40 40", 40, 40, 40, 0);
    lastIs("last 40 0 31", 40, 0, 31, 0);
    three("last", 40, "");
    three("last", 40, " price 9");
  }

  private static void lastPrice() {
    e.of("perhaps price N (0 to 99; 0)");
    lastIs("last 1 2 3", 1, 2, 3, 0);
    lastIs("last 1 2 3 price 0", 1, 2, 3, 0);
    lastIs("last 1 2 3 price 99", 1, 2, 3, 99);
    fault("last 1 2 3 price 100", 17);
    fault("last 1 2 3 price 2 price 2", 19);
    fault("last 1 2 3 times 2", 11);
    fault("last 1 2 3 give 2", 11);
    NineLasts x = fine("last 1 2 3 price 4;last 5 6 7");
    e.due("price of the second", x.lastOf(0, 1, 3), 0);
  }

  private static void tenLasts() {
    e.of("a LAST more (10 at most); .. a LAST too many: its word");
    String ten = "last1 2 3;".repeat(10);
    valleyIs(ten + "out 7", 0, 0, 10, 0, 7);
    valleyIs(ten + "foot 1 1 1", 0, 1, 10, 1);
    fault(ten + "last 1 2 3", 100);
    fault(ten + "  last 1 2 3", 102);
    fault(ten + "last x", 100);
    fault(ten + "last", 100);
    fault("last1 2 3;".repeat(9) + "last 1 2", 98);
  }

  private static void waste() {
    e.of("waste L B H (0 to 9 each; 1 1 1 at first)");
    valleyIs("out 1", 5, 1, 1, 1);
    valleyIs("waste 0 0 0", 5, 0, 0, 0);
    valleyIs("waste 9 9 9", 5, 9, 9, 9);
    valleyIs("waste 2 3 4", 5, 2, 3, 4);
    three("waste", 9, "");
    fault("waste 1 1", 9);
    fault("waste 1 1 1 1", 12);
  }

  private static void over() {
    e.of("over L B H (0 to 30 each; 9 9 9 at first)");
    valleyIs("out 1", 8, 9, 9, 9);
    valleyIs("over 0 0 0", 8, 0, 0, 0);
    valleyIs("over 30 30 30", 8, 30, 30, 30);
    valleyIs("over 2 3 4", 8, 2, 3, 4);
    three("over", 30, "");
    fault("over 1 1", 8);
    fault("over 1 1 1 1", 11);
  }

  private static void out() {
    e.of("out N (0 to 99; 50 at first)");
    valleyIs("grow 2", 3, 50);
    valleyIs("out 0", 3, 0);
    valleyIs("out 99", 3, 99);
    fault("out 100", 4);
    fault("out 1 1", 6);
  }

  private static void grow() {
    e.of("grow N (0 to 9; 1 at first)");
    valleyIs("out 2", 4, 1);
    valleyIs("grow 0", 4, 0);
    valleyIs("grow 9", 4, 9);
    fault("grow 10", 5);
    fault("grow 99", 5);
    fault("grow 1 1", 7);
  }

  private static void laterCounts() {
    e.of("What is told later counts.");
    valleyIs("out 1;out 2", 3, 2);
    valleyIs("grow 3;out 1;grow 2", 4, 2);
    valleyIs("waste 1 2 3;waste 4 5 6", 5, 4, 5, 6);
    valleyIs("over 1 2 3;over 4 5 6", 8, 4, 5, 6);
    NineLasts x = fine("waste 9 9 9;foot 5 5 5;last 7 6 5;over 0 0 0;over 2 1 0;waste 1 2 3");
    e.due("for feet and lasts told ahead, too", x.bad(0, 0, 0), 4);
  }

  private static void firstFault() {
    e.of("The FAULT: the place of the first byte of the first TOKEN that can't stand there");
    fault("out 100;grow 10", 4);
    fault("  outs 100", 2);
    fault("foot 1 31 31", 7);
    fault("foot 1 ; 31", 7);
    fault("out 5;last 1 1 1;foot 1 1 last", 26);
    fault("foot foot", 5);
    fault("foot 1 foot", 7);
    fault("out ;", 4);
    fault("out out", 4);
    fault("foot 1 1 1 1", 11);
    fault("foot 1 1 1 times give", 17);
    fault("foot 1 1 1 times ;", 17);
    fault("foot 1 1 1 give ;", 16);
    fault("last 1 1 1 price ;", 17);
  }

  private static void threeDigits() {
    e.of("a NUMBER that may not be, or has more than 2 digits");
    fault("out 005", 4);
    fault("out 000", 4);
    fault("foot 001 1 1", 5);
    fault("foot 1 1 1 times 001", 17);
    fault("out 4294967301", 4);
    fault("out 18446744073709551621", 4);
    fault("out " + "0".repeat(246), 4);
    valleyIs("out 05", 3, 5);
    valleyIs("out 00", 3, 0);
    footIs("foot 00 07 30 times 09 give 09", 0, 7, 30, 9, 9);
  }

  /** A statement cut at every place: whole ones are fine, else the word that isn't whole, or the end. */
  private static void cuts(String text, int[] whole, int[][] halfWords) {
    for (int end = 0; end < text.length(); end++) {
      String cut = text.substring(0, end);
      int place = end;
      for (int[] half : halfWords) if (end > half[0] && end < half[1]) place = half[0];
      boolean isWhole = false;
      for (int w : whole) isWhole |= w == end;
      if (isWhole) fine(cut);
      else fault(cut, place);
    }
    fine(text);
  }

  private static void tooEarly() {
    e.of("THE TAPE's size, if it ends too early");
    cuts("foot 1 2 3 times 4 give 5;out 6", new int[] {10, 11, 18, 19, 25},
        new int[][] {{0, 4}, {11, 16}, {19, 23}, {26, 29}});
    cuts("last 1 2 3 price 4;last 5 6 7", new int[] {10, 11, 18}, new int[][] {{0, 4}, {11, 16}, {19, 23}});
    cuts("waste 1 2 3;over 1 2 3", new int[] {11}, new int[][] {{0, 5}, {12, 16}});
    cuts("grow 1;out 1", new int[] {6}, new int[][] {{0, 4}, {7, 10}});
    fault("foot 1 1   ", 11);
    fault("out   ", 6);
  }

  // ---- promises 11 to 21

  private static void feedBytes() {
    e.of("THE TAPE gets the n lowest bytes (1 .. 4) of v behind it, the highest of these first: its size.");
    NineLasts x = new NineLasts();
    e.due("4", x.feed(0x6f757420, 4), 4);
    e.due("1 of 4", x.feed(0x6f757431, 1), 5);
    e.due("2 of 4", x.feed(0x7777323b, 2), 7);
    e.due("3 of 4", x.feed(0x776f7574, 3), 10);
    e.due("1", x.feed('7', 1), 11);
    e.due("the tape's size", x.status(1), 11);
    e.due("valley of out 12;out7", x.valley(), 0);
    e.due("out", x.valleyOf(0, 3), 7);
    NineLasts y = new NineLasts();
    e.due("-1", y.feed(-1, 4), 4);
    e.due("byte 255", y.valley(), -20);
    NineLasts z = new NineLasts();
    z.feed(0x20202020, 4);
    z.feed(0x20ff2020, 4);
    e.due("byte 255 is second of four", z.valley(), -25);
    NineLasts zero = new NineLasts();
    e.due("bytes 0", zero.feed(0, 4), 4);
    e.due("MIN", zero.feed(MIN, 1), 5);
    e.due("MAX", zero.feed(MAX, 2), 7);
    e.badBeyond("feed of", Edge::rich, 1, 4, (r, n) -> r.feed(0x20202020, n));
  }

  private static void wipes() {
    e.of("THE TAPE is empty: its size ahead.");
    NineLasts x = new NineLasts();
    e.due("of an empty one", x.wipe(), 0);
    Checks.tell(x, " ".repeat(250));
    e.due("of a full one", x.wipe(), 250);
    e.due("size", x.status(1), 0);
    e.due("again", x.wipe(), 0);
    Checks.tell(x, "out 5");
    e.due("valley of what came later", x.valley(), 0);
    x.feed(';', 1);
    e.due("of one", x.wipe(), 1);
    e.due("nothing is refused", x.status(12), 0);
  }

  private static void valleyEmptiesTheTape() {
    e.of("THE TAPE is a VALLEY: its number; -20 less the FAULT (that is refused, too: BAD). THE TAPE is empty then, either way.");
    NineLasts x = Edge.rich();
    NineLasts twin = Edge.rich();
    x.wipe();
    twin.wipe();
    Checks.tell(x, "foot 9 9 9;last 9 9 9;waste 9 9 9;out x");
    int bads = x.status(12);
    e.due("with a fault", x.valley(), -20 - 38);
    e.due("BAD", x.status(12), bads + 1);
    for (int w = 13; w <= 16; w++) e.due("status(" + w + ")", x.status(w), twin.status(w));
    e.same("valley() with a fault", x, twin);
    NineLasts y = Edge.with("out 5");
    e.due("the tape after a valley", y.status(1), 0);
    e.due("an empty one then", y.valley(), -20);
    Checks.tell(y, "out");
    e.due("the end", y.valley(), -23);
    e.due("the tape after a fault", y.status(1), 0);
    e.due("both were BAD", y.status(12), 2);
    Checks.tell(y, "grow 3");
    e.due("the number is the next", y.valley(), 1);
    int[] due = {0, 0, 0, 50, 3, 1, 1, 1, 9, 9, 9};
    for (int w = 0; w <= 10; w++) e.due("valleyOf(1, " + w + ")", y.valleyOf(1, w), due[w]);
  }

  private static void valleyAfterAFault() {
    e.of("(nothing changes but how many there were): of a VALLEY with a FAULT nothing stays");
    NineLasts x = new NineLasts();
    Checks.tell(x, "foot 1 1 1 times 5 give 5;last 1 1 1 price 9;waste 5 5 5;over 5 5 5;out 5;grow 5;");
    e.due("with a fault", x.valley(), -20 - 81);
    Checks.tell(x, "foot 2 2 2;last 3 3 3");
    e.due("the next", x.valley(), 0);
    int[] due = {1, 1, 1, 50, 1, 1, 1, 1, 9, 9, 9};
    for (int w = 0; w <= 10; w++) e.due("valleyOf(0, " + w + ")", x.valleyOf(0, w), due[w]);
    e.due("give", x.footOf(0, 0, 4), 0);
    e.due("price", x.lastOf(0, 0, 3), 0);
  }

  private static void valleyFull() {
    e.of("FULL (ahead of all; THE TAPE stays).");
    e.full("a fifth valley", () -> {
      NineLasts x = Edge.fourValleys();
      Checks.tell(x, "out 5");
      return x;
    }, x -> x.valley());
    e.full("a fifth valley with a fault", () -> {
      NineLasts x = Edge.fourValleys();
      Checks.tell(x, "outs");
      return x;
    }, x -> x.valley());
    e.full("a fifth valley of an empty tape", Edge::fourValleys, x -> x.valley());
    NineLasts x = Edge.with("out 1");
    x.image();
    for (int i = 2; i <= 4; i++) {
      Checks.tell(x, "out " + i);
      x.valley();
    }
    Checks.tell(x, "out 7");
    e.due("no room", x.valley(), -6);
    e.due("the tape", x.status(1), 5);
    x.back();
    e.due("room again", x.valley(), 1);
    e.due("by the tape that stayed", x.valleyOf(1, 3), 7);
  }

  private static void valleyOfAll() {
    e.of("FEET (0), LASTS (1), all times together (2), out (3), grow (4), waste of L, B, H (5, 6, 7), over of these (8, 9, 10).");
    valleyIs("out 1", 0, 0, 0, 0, 1, 1, 1, 1, 1, 9, 9, 9);
    valleyIs("foot 1 1 1 times 99;foot 1 1 1;last 1 1 1;last 1 1 1;last 1 1 1;out 98;grow 7;waste 2 3 4;over 5 6 7",
        0, 2, 3, 100, 98, 7, 2, 3, 4, 5, 6, 7);
    NineLasts x = Edge.twelveFeet();
    for (int f = 0; f < 12; f++) x.alter(0, f, 0, 99);
    e.due("all times", x.valleyOf(0, 2), 12 * 99);
    e.badBeyond("valleyOf what", Edge::rich, 0, 10, (y, w) -> y.valleyOf(0, w));
  }

  private static void footOfAll() {
    e.of("Of a FOOT: L (0), B (1), H (2), times (3), give (4).");
    NineLasts x = Edge.twelveFeet();
    x.alter(0, 11, 1, 9);
    int[] due = {11, 11, 11, 2, 9};
    for (int w = 0; w <= 4; w++) e.due("of the twelfth: " + w, x.footOf(0, 11, w), due[w]);
    e.badBeyond("footOf foot", Edge::twelveFeet, 0, 11, (y, f) -> y.footOf(0, f, 0));
    e.badBeyond("footOf foot", Edge::rich, 0, 1, (y, f) -> y.footOf(0, f, 0));
    e.badBeyond("footOf what", Edge::rich, 0, 4, (y, w) -> y.footOf(0, 0, w));
  }

  private static void lastOfAll() {
    e.of("Of a LAST: L (0), B (1), H (2), price (3).");
    NineLasts x = Edge.tenLasts();
    int[] due = {9, 9, 9, 8};
    for (int w = 0; w <= 3; w++) e.due("of the tenth: " + w, x.lastOf(0, 9, w), due[w]);
    e.badBeyond("lastOf last", Edge::tenLasts, 0, 9, (y, l) -> y.lastOf(0, l, 0));
    e.badBeyond("lastOf last", Edge::rich, 0, 1, (y, l) -> y.lastOf(0, l, 0));
    e.badBeyond("lastOf what", Edge::rich, 0, 3, (y, w) -> y.lastOf(0, 0, w));
  }

  private static void feetIs(String what, int came, int sort, long... elements) {
    NineLasts x = Edge.with("foot 9 9 9");
    Checks.fill(x, 0, sort, elements);
    e.due("feet: " + what, x.feet(0, 0), came);
    e.due("feet then: " + what, x.valleyOf(0, 0), 1 + came);
    for (int f = 0; f < came; f++)
      for (int w = 0; w < 5; w++)
        e.due(what + ": footOf(0, " + (1 + f) + ", " + w + ")", x.footOf(0, 1 + f, w), w == 4 ? 0 : elements[4 * f + w]);
    e.due("nothing is refused: " + what, x.status(12) + x.status(13) + x.status(14) + x.status(15) + x.status(16), 0);
  }

  private static void feetThatCannotBe() {
    e.of("FEET by elements 0 on .. four each: L, B, H, times (give 0), until one that can't be one");
    feetIs("the least", 1, 2, 0, 0, 0, 1);
    feetIs("the greatest", 1, 2, 30, 30, 30, 99);
    for (int at = 0; at < 4; at++)
      for (long no : new long[] {-1, at == 3 ? 100 : 31, at == 3 ? 0 : 99, 1L << 32, 1L << 32 | 1, -(1L << 32) + 1, Long.MIN_VALUE, Long.MAX_VALUE}) {
        long[] row = {1, 2, 3, 4, 1, 2, 3, 4, 5, 6, 7, 8};
        row[4 + at] = no;
        feetIs("the second can't be, by " + no + " at " + at, 1, 3, row);
        row[at] = no;
        feetIs("none can be, by " + no + " at " + at, 0, 3, row);
      }
    feetIs("a byte of 128, which is -128", 1, 0, 1, 2, 3, 4, 128, 1, 1, 1);
    feetIs("booleans", 1, 4, 1, 0, 1, 1, 1, 1, 1, 0, 1, 1, 1, 1);
  }

  private static void feetToTheEnd() {
    e.of("until .. the ROW ends: how many came.");
    feetIs("an empty row", 0, 2);
    feetIs("three elements", 0, 2, 1, 2, 3);
    feetIs("four", 1, 2, 1, 2, 3, 4);
    feetIs("five", 1, 2, 1, 2, 3, 4, 5);
    feetIs("seven", 1, 2, 1, 2, 3, 4, 5, 6, 7);
    feetIs("eight", 2, 2, 1, 2, 3, 4, 5, 6, 7, 8);
    feetIs("forty", 10, 2, Edge.row(1, 10));
    NineLasts x = Edge.with("foot 9 9 9");
    Checks.fill(x, 0, 2, 1, 2, 3, 4, 5, 6, 7, 8);
    x.row(0, 2, 7);
    for (int i = 0; i < 7; i++) x.set(0, i, 1);
    e.due("what a longer row had there doesn't count", x.feet(0, 0), 1);
  }

  private static void feetWithoutRoom() {
    e.of("until one .. that there is no room for");
    NineLasts x = Edge.with("out 1");
    Checks.fill(x, 0, 0, Edge.row(1, 10));
    e.due("ten", x.feet(0, 0), 10);
    e.due("two more", x.feet(0, 0), 2);
    e.due("none more", x.feet(0, 0), 0);
    e.due("twelve", x.valleyOf(0, 0), 12);
    e.due("the eleventh", x.footOf(0, 10, 0), 1);
    e.due("the twelfth", x.footOf(0, 11, 0), 2);
    e.due("nothing is refused", x.status(16), 0);
    NineLasts y = Edge.with("foot1 1 1;".repeat(11) + "out 1");
    Checks.fill(y, 0, 0, 7, 7, 7, 7);
    e.due("the twelfth", y.feet(0, 0), 1);
    e.due("no thirteenth", y.feet(0, 0), 0);
  }

  private static void feetGiveNothing() {
    e.of("times (give 0)");
    NineLasts x = Edge.with("foot 1 1 1 give 5;foot 1 1 1 give 9");
    x.image();
    Checks.fill(x, 0, 0, 2, 2, 2, 2);
    x.feet(0, 0);
    x.alter(0, 2, 1, 9);
    x.back();
    x.feet(0, 0);
    e.due("give", x.footOf(0, 2, 4), 0);
  }

  private static void alterTimes() {
    e.of("times (what 0) .. of a FOOT becomes v, as told: what it was.");
    NineLasts x = Edge.twelveFeet();
    e.due("99", x.alter(0, 11, 0, 99), 2);
    e.due("1", x.alter(0, 11, 0, 1), 99);
    e.due("times", x.footOf(0, 11, 3), 1);
    e.due("give", x.footOf(0, 11, 4), 0);
    e.due("another foot's", x.footOf(0, 10, 3), 2);
    e.badBeyond("times", Edge::rich, 1, 99, (y, v) -> y.alter(0, 0, 0, v));
  }

  private static void alterGive() {
    e.of("give (1) of a FOOT becomes v, as told: what it was.");
    NineLasts x = Edge.twelveFeet();
    e.due("9", x.alter(0, 11, 1, 9), 0);
    e.due("0", x.alter(0, 11, 1, 0), 9);
    e.due("give", x.footOf(0, 11, 4), 0);
    e.due("times", x.footOf(0, 11, 3), 2);
    e.badBeyond("give", Edge::rich, 0, 9, (y, v) -> y.alter(0, 0, 1, v));
    e.badBeyond("alter what", Edge::rich, 0, 1, (y, w) -> y.alter(0, 0, w, 1));
  }

  private static void carves() {
    e.of("L, B, H (what 0, 1, 2), price (3) of a LAST becomes v, as told: what it was.");
    int[] most = {40, 40, 40, 99};
    for (int what = 0; what < 4; what++) {
      int w = what;
      NineLasts x = Edge.tenLasts();
      int was = w == 3 ? 8 : 9;
      e.due("the most of " + w, x.carve(0, 9, w, most[w]), was);
      e.due("the least of " + w, x.carve(0, 9, w, 0), most[w]);
      for (int p = 0; p < 4; p++) e.due("lastOf(0, 9, " + p + ")", x.lastOf(0, 9, p), p == w ? 0 : p == 3 ? 8 : 9);
      for (int p = 0; p < 4; p++) e.due("lastOf(0, 8, " + p + ")", x.lastOf(0, 8, p), p == 3 ? 7 : 8);
      e.badBeyond("carve " + w, Edge::rich, 0, most[w], (y, v) -> y.carve(0, 0, w, v));
    }
    e.badBeyond("carve what", Edge::rich, 0, 3, (y, w) -> y.carve(0, 0, w, 1));
  }

  private static void builtIs(NineLasts x, int number, int... due) {
    for (int w = 0; w < 4; w++) e.due("lastOf(0, " + number + ", " + w + ")", x.lastOf(0, number, w), due[w]);
  }

  private static void buildBy() {
    e.of("A LAST more, as LAST i built up by a (1 to 9) in each measure .. its number.");
    NineLasts x = Edge.with("last 0 1 2 price 3");
    e.due("by 1", x.build(0, 0, 1), 1);
    e.due("by 9", x.build(0, 0, 9), 2);
    e.due("of one that was built", x.build(0, 2, 9), 3);
    builtIs(x, 1, 1, 2, 3, 4);
    builtIs(x, 2, 9, 10, 11, 12);
    builtIs(x, 3, 18, 19, 20, 21);
    builtIs(x, 0, 0, 1, 2, 3);
    e.badBeyond("build by", Edge::rich, 1, 9, (y, a) -> y.build(0, 0, a));
  }

  private static void buildTo40() {
    e.of("(40 at most ..); STUCK: a measure above 40");
    for (int m = 0; m < 3; m++) {
      int measure = m;
      NineLasts x = Edge.with("last 1 1 1");
      x.carve(0, 0, m, 31);
      e.due("up to 40 in " + m, x.build(0, 0, 9), 1);
      e.due("40", x.lastOf(0, 1, m), 40);
      for (int a : new int[] {1, 9})
        e.stuck("above 40 in " + m, () -> {
          NineLasts y = Edge.with("last 1 1 1");
          y.carve(0, 0, measure, 41 - a);
          return y;
        }, y -> y.build(0, 0, a));
    }
  }

  private static void buildPrice() {
    e.of("price as that one's, and a more, 99 at most");
    int[][] due = {{0, 1, 1}, {90, 9, 99}, {91, 9, 99}, {98, 1, 99}, {99, 1, 99}, {99, 9, 99}, {89, 9, 98}};
    for (int[] d : due) {
      NineLasts x = Edge.with("last 1 1 1 price " + d[0]);
      e.due("build", x.build(0, 0, d[1]), 1);
      e.due("price of " + d[0] + " by " + d[1], x.lastOf(0, 1, 3), d[2]);
    }
  }

  private static void buildFull() {
    e.of("build: FULL");
    NineLasts x = Edge.with("last1 1 1;".repeat(9) + "out 1");
    e.due("the tenth", x.build(0, 0, 1), 9);
    e.due("no eleventh", x.build(0, 0, 1), -6);
    e.due("ten", x.valleyOf(0, 1), 10);
    e.full("an eleventh", Edge::tenLasts, y -> y.build(0, 1, 1));
    e.full("an eleventh, of the tenth", Edge::tenLasts, y -> y.build(0, 9, 9));
  }

  private static void yearsTo30() {
    e.of("FEET grow by a YEAR: L by grow (30 at most): how many grew.");
    NineLasts x = Edge.with("foot 0 30 30 times 9;foot 20 1 1 give 9;foot 21 1 1;foot 22 1 1;foot 29 1 1;foot 30 1 1;grow 9");
    e.due("all but the one of 30", x.year(0), 5);
    int[] due = {9, 29, 30, 30, 30, 30};
    for (int f = 0; f < 6; f++) e.due("L of " + f, x.footOf(0, f, 0), due[f]);
    e.due("two more", x.year(0), 2);
    e.due("one more", x.year(0), 1);
    e.due("and its last", x.year(0), 1);
    e.due("L of 0", x.footOf(0, 0, 0), 30);
    e.due("none more", x.year(0), 0);
    int[] rest = {30, 30, 9, 0};
    for (int w = 1; w <= 4; w++) e.due("the others stay", x.footOf(0, 0, w), rest[w - 1]);
    NineLasts mixed = Edge.with("foot 30 1 1;foot 5 1 1;foot 30 1 1;foot 7 1 1;foot 28 1 1;grow 3");
    e.due("the second, fourth and fifth", mixed.year(0), 3);
    int[] dueMixed = {30, 8, 30, 10, 30};
    for (int f = 0; f < 5; f++) e.due("L of " + f, mixed.footOf(0, f, 0), dueMixed[f]);
    e.due("without growing", Edge.with("foot 1 1 1;grow 0").year(0), 0);
    e.due("of no feet", Edge.with("grow 9").year(0), 0);
    NineLasts two = Edge.with("foot 1 1 1", "foot 1 1 1");
    two.year(1);
    e.due("another valley's", two.footOf(0, 0, 0), 1);
    NineLasts twelve = Edge.twelveFeet();
    e.due("twelve", twelve.year(0), 12);
  }

  public static void main(String[] args) {
    fourValleys();
    tapeOf250();
    bytes();
    longTokens();
    words();
    numbers();
    blanks();
    statements();
    footMeasures();
    footTimes();
    footGive();
    footsDefaults();
    twelveFeet();
    lastMeasures();
    lastPrice();
    tenLasts();
    waste();
    over();
    out();
    grow();
    laterCounts();
    firstFault();
    threeDigits();
    tooEarly();
    feedBytes();
    wipes();
    valleyEmptiesTheTape();
    valleyAfterAFault();
    valleyFull();
    valleyOfAll();
    footOfAll();
    lastOfAll();
    feetThatCannotBe();
    feetToTheEnd();
    feetWithoutRoom();
    feetGiveNothing();
    alterTimes();
    alterGive();
    carves();
    buildBy();
    buildTo40();
    buildPrice();
    buildFull();
    yearsTo30();
    e.end("TapeEdgeTest");
  }
}
