/** The edges of promises 32 to 38: hold, as, sheet, write, copy, load, judge. */
final class SheetsEdges {
  private static final int[] WIDTHS = {8, 16, 32};

  private SheetsEdges() {}

  static void all() {
    spots();
    sheets();
    copies();
    Words.of(37, "Numbers of a sheet, from its begin on, become SPEEDS of SHIPS 0, 1, ..: how many"
        + " came.", SheetsEdges::loads);
    Words.of(37, "It ends at the first that isn't 0 to 5,", SheetsEdges::loadsUpToNoSpeed);
    Words.of(37, "or for which there is no SHIP.", SheetsEdges::loadsUpToNoShip);
    Words.of(37, "BEYOND: no such sheet.", () -> sheetsOnly("load", (x, v) -> x.load(v)));
    Words.of(37, "MISSING.", () -> missing("load", (x, v) -> x.load(v)));
    Words.of(38, "THE READER: numbers of a sheet are CELLS of SHIPS 0, 1, ..: 0 if so;",
        SheetsEdges::judgesRight);
    Words.of(38, "else 1 and the place of the first that isn't so.", SheetsEdges::judgesWrong);
    Words.of(38, "BEYOND: no such sheet.", () -> sheetsOnly("judge", (x, v) -> x.judge(v)));
    Words.of(38, "MISSING.", () -> missing("judge", (x, v) -> x.judge(v)));
  }

  private static void spots() {
    Words.of(32, "A SPOT holds a SHIP, or nothing (-1): 1.", SheetsEdges::holds);
    Words.of(32, "BEYOND.", SheetsEdges::holdBeyond);
    Words.of(33, "What a SPOT holds as one of a kind (0 to 6): the number of the SHIP.",
        SheetsEdges::asOneOfAKind);
    Words.of(33, "BEYOND.", SheetsEdges::asBeyond);
    Words.of(33, "MISSING: it holds nothing.", SheetsEdges::asMissing);
    Words.of(33, "KIND: it isn't of that kind, nor of one under it.", SheetsEdges::asKind);
  }

  private static void sheets() {
    Words.of(34, "A sheet has n numbers, all 0, of 8, 16 or 32 bits;", SheetsEdges::sheetOfZeros);
    Words.of(34, "bits 0: it is MISSING:", SheetsEdges::sheetIsMissing);
    Words.of(34, "n (0 if it is MISSING).", SheetsEdges::sheetTellsN);
    Words.of(34, "BEYOND: no such sheet, other bits.", SheetsEdges::sheetBeyond);
    Words.of(34, "SIZE: n is below 0 (also with bits 0).", SheetsEdges::sheetSize);
    Words.of(34, "BEYOND: n is above 40 (also with bits 0).", SheetsEdges::sheetAbove40);
    Words.of(35, "Number i of a sheet becomes v (its lowest bits): 1.", SheetsEdges::writes);
    Words.of(35, "BEYOND: no such sheet.", () -> sheetsOnly("write", (x, v) -> x.write(v, 0, 1)));
    Words.of(35, "MISSING.", SheetsEdges::writeMissing);
    Words.of(35, "BEYOND: no such number.", SheetsEdges::writeBeyond);
  }

  private static void copies() {
    Words.of(36, "n numbers of a sheet from one on come to another one from one on",
        SheetsEdges::copiesFromAndTo);
    Words.of(36, "(as they all were): n.", SheetsEdges::copiesAsTheyWere);
    Words.of(36, "BEYOND: no such sheet (either).", SheetsEdges::copyBeyond);
    Words.of(36, "MISSING: one is.", SheetsEdges::copyMissing);
    Words.of(36, "KIND: they are not of as many bits.", SheetsEdges::copyKind);
    Words.of(36, "BEYOND: one has not so many,", SheetsEdges::copyNotSoMany);
    Words.of(36, "or from, to or n is below 0.", SheetsEdges::copyBelow0);
  }

  private static void holds() {
    TwinLights x = Due.eight();
    for (int spot = 0; spot <= 9; spot++) {
      Due.is("hold(" + spot + ", 7)", x.hold(spot, 7), 1);
      Due.is("hold(" + spot + ", 0)", x.hold(spot, 0), 1);
      Due.is("count(7)", x.count(7), spot + 1);
    }
    for (int spot = 9; spot >= 0; spot--) {
      Due.is("hold(" + spot + ", -1)", x.hold(spot, -1), 1);
      Due.is("hold(" + spot + ", -1) again", x.hold(spot, -1), 1);
      Due.is("count(7)", x.count(7), spot);
    }
    Due.is("hold(9, -1) without ships", new TwinLights().hold(9, -1), 1);
  }

  private static TwinLights holding() {
    TwinLights x = Due.told("tug;liner");
    x.hold(0, 1);
    x.hold(9, 0);
    return x;
  }

  private static void holdBeyond() {
    Due.range("hold(.., 1)", 0, 9, SheetsEdges::holding, (x, v) -> x.hold(v, 1));
    Due.range("hold(.., -1)", 0, 9, SheetsEdges::holding, (x, v) -> x.hold(v, -1));
    Due.range("hold(0, ..) of two", -1, 1, SheetsEdges::holding, (x, v) -> x.hold(0, v));
    Due.range("hold(9, ..) of eight", -1, 7, Due::eight, (x, v) -> x.hold(9, v));
    Due.range("hold(9, ..) of none", -1, -1, TwinLights::new, (x, v) -> x.hold(9, v));
  }

  private static void asOneOfAKind() {
    TwinLights x = Due.eight();
    for (int spot = 0; spot <= 9; spot++) {
      x.hold(spot, spot % 8);
    }
    for (int spot = 0; spot <= 9; spot++) {
      Due.is("as(" + spot + ", 0)", x.as(spot, 0), spot % 8);
    }
    for (int kind = 0; kind <= 6; kind++) {
      Due.is("as(" + kind + ", " + kind + ")", x.as(kind, kind), kind);
    }
  }

  private static void asBeyond() {
    Due.range("as(.., 0)", 0, 9, SheetsEdges::holding, (x, v) -> x.as(v, 0));
    Due.range("as(0, ..)", 0, 6, SheetsEdges::holding, (x, v) -> x.as(0, v));
    // Of a spot that holds nothing, too.
    Due.range("as(4, ..)", 0, 6, SheetsEdges::holding, (x, v) -> x.as(4, v));
  }

  private static void asMissing() {
    for (int spot = 1; spot <= 8; spot++) {
      int one = spot;
      Due.refused("as(" + spot + ", 0)", Due.MISSING, SheetsEdges::holding, x -> x.as(one, 0));
      Due.refused("as(" + spot + ", 6)", Due.MISSING, SheetsEdges::holding, x -> x.as(one, 6));
    }
    Due.refused("as(0, 0) of one that held", Due.MISSING, SheetsEdges::heldBefore,
        x -> x.as(0, 0));
  }

  private static TwinLights heldBefore() {
    TwinLights x = holding();
    x.hold(0, -1);
    return x;
  }

  private static void asKind() {
    Due.refused("as(9, 2), a TUG as a LINER", Due.KIND, SheetsEdges::holding, x -> x.as(9, 2));
    Due.refused("as(9, 6), a TUG as a PILOT", Due.KIND, SheetsEdges::holding, x -> x.as(9, 6));
    Due.refused("as(0, 3), a LINER as a YACHT", Due.KIND, SheetsEdges::holding, x -> x.as(0, 3));
    Due.is("as(9, 1), a TUG as a TUG", holding().as(9, 1), 0);
    Due.is("as(9, 0), a TUG as a SHIP", holding().as(9, 0), 0);
    // Two and three kinds above.
    TwinLights x = Due.told("racer;ghost");
    x.hold(0, 0);
    x.hold(1, 1);
    int[] racer = {0, Due.KIND, 0, 0, 0, Due.KIND, Due.KIND};
    int[] ghost = {1, Due.KIND, Due.KIND, Due.KIND, Due.KIND, 1, Due.KIND};
    for (int kind = 0; kind <= 6; kind++) {
      Due.is("as(0, " + kind + ") of a RACER", x.as(0, kind), racer[kind]);
      Due.is("as(1, " + kind + ") of a GHOST", x.as(1, kind), ghost[kind]);
    }
    // As it is of now, not as it was when it was held.
    x.change(0, 0, 6);
    Due.is("as(0, 1) of one that is a PILOT now", x.as(0, 1), 0);
    Due.is("as(0, 4) of one that was a RACER", x.as(0, 4), Due.KIND);
  }

  /** Two ships that are where sheet 0 says; sheets 1 and 3 of 16 bits, 2 of none. */
  private static TwinLights some() {
    TwinLights x = Due.told("ship at 4;ship at 0");
    Due.sheet(x, 0, 4, 0);
    x.sheet(1, 16, 3);
    x.sheet(2, 32, 0);
    Due.sheet(x, 3, 16, new int[] {4, 0, 4, 0, 4});
    return x;
  }

  private static void sheetsOnly(String call, Due.Call act) {
    Due.range(call, 0, 3, SheetsEdges::some, act);
    Due.beyond(call + " where all are missing", Due::eight, act, -1, 4);
  }

  private static TwinLights without(int s) {
    TwinLights x = some();
    x.sheet(s, 0, 0);
    return x;
  }

  private static void missing(String call, Due.Call act) {
    for (int s = 0; s <= 3; s++) {
      int one = s;
      Due.refused(call + "(" + s + ") at first", Due.MISSING, Due::eight, x -> act.of(x, one));
      Due.refused(call + "(" + s + ") of one that was there", Due.MISSING, () -> without(one),
          x -> act.of(x, one));
    }
  }

  private static void sheetOfZeros() {
    for (int s = 0; s <= 3; s++) {
      for (int bits : WIDTHS) {
        for (int n : new int[] {1, 2, 39, 40}) {
          TwinLights x = Due.told("ship at 0 port");
          x.sheet(s, bits, 40);
          for (int i = 0; i < 40; i++) {
            x.write(s, i, 9);
          }
          x.sheet(s, bits, n);
          // In port it is at 0 for good; so many zeros are told, and no more.
          Due.is("kinds() of " + n + " in " + bits + " bits", x.kinds(s, 0), 127);
          Due.is("the last", x.copy(s, n - 1, s, 0, 1), 1);
          Due.is("one behind it", x.copy(s, n, s, 0, 1), Due.BEYOND);
          Due.is("kinds() of them still", x.kinds(s, 0), 127);
          Due.is("load()", x.load(s), 1);
          Due.is("of(0, 3)", x.of(0, 3), 0);
        }
        Due.is("judge() of no number", zeros(s, bits, 0).judge(s), 0);
        Due.is("load() of no number", zeros(s, bits, 0).load(s), 0);
        Due.is("write() of no number", zeros(s, bits, 0).write(s, 0, 0), Due.BEYOND);
      }
    }
  }

  private static TwinLights zeros(int s, int bits, int n) {
    TwinLights x = Due.told("ship at 3");
    x.sheet(s, bits, n);
    return x;
  }

  private static void sheetIsMissing() {
    for (int n : new int[] {0, 3, 40}) {
      TwinLights x = some();
      Due.is("sheet(0, 0, " + n + ")", x.sheet(0, 0, n), 0);
      Due.is("judge(0)", x.judge(0), Due.MISSING);
      Due.is("write(0, 0, 1)", x.write(0, 0, 1), Due.MISSING);
      Due.is("sheet(0, 0, " + n + ") again", x.sheet(0, 0, n), 0);
      Due.is("judge(0)", x.judge(0), Due.MISSING);
      Due.is("judge(3), which is there", x.judge(3), 3);
      x.sheet(0, 8, 2);
      Due.is("judge(0), all 0", x.judge(0), 1);
    }
  }

  private static void sheetTellsN() {
    for (int bits : WIDTHS) {
      for (int n : new int[] {0, 1, 39, 40}) {
        Due.is("sheet(0, " + bits + ", " + n + ")", some().sheet(0, bits, n), n);
      }
    }
    for (int n : new int[] {0, 1, 39, 40}) {
      Due.is("sheet(0, 0, " + n + ")", some().sheet(0, 0, n), 0);
      Due.is("sheet(1, 0, " + n + ") of one that is missing", without(1).sheet(1, 0, n), 0);
    }
  }

  private static void sheetBeyond() {
    for (int bits : new int[] {0, 8, 16, 32}) {
      for (int n : new int[] {0, 40}) {
        Due.range("sheet(.., " + bits + ", " + n + ")", 0, 3, SheetsEdges::some,
            (x, v) -> x.sheet(v, bits, n));
      }
    }
    Due.taken("sheet(3, .., 40)", SheetsEdges::some, (x, v) -> x.sheet(3, v, 40), 0, 8, 16, 32);
    Due.beyond("sheet(3, .., 40)", SheetsEdges::some, (x, v) -> x.sheet(3, v, 40), -1, 1, 2, 4, 7,
        9, 15, 17, 24, 31, 33, 64, -8, Due.LEAST_INT, Due.GREATEST_INT);
    // Told before the size is looked at.
    Due.beyond("sheet(.., 8, -1)", SheetsEdges::some, (x, v) -> x.sheet(v, 8, -1), -1, 4);
    Due.beyond("sheet(0, .., -1)", SheetsEdges::some, (x, v) -> x.sheet(0, v, -1), -1, 1, 24, 64);
  }

  private static void sheetSize() {
    for (int bits : new int[] {0, 8, 16, 32}) {
      for (int n : new int[] {-1, -2, -41, Due.LEAST_INT}) {
        for (int s = 0; s <= 3; s += 3) {
          int one = s;
          Due.refused("sheet(" + s + ", " + bits + ", " + n + ")", Due.SIZE, SheetsEdges::some,
              x -> x.sheet(one, bits, n));
        }
      }
      Due.is("sheet(0, " + bits + ", 0)", some().sheet(0, bits, 0), 0);
    }
  }

  private static void sheetAbove40() {
    for (int bits : new int[] {0, 8, 16, 32}) {
      Due.taken("sheet(0, " + bits + ", ..)", SheetsEdges::some, (x, v) -> x.sheet(0, bits, v), 40);
      Due.beyond("sheet(0, " + bits + ", ..)", SheetsEdges::some, (x, v) -> x.sheet(0, bits, v), 41,
          42, Due.GREATEST_INT);
    }
  }

  private static void writes() {
    // What is left of a number: 5 by its lowest 8, 16 or 32 bits, or by none of these.
    int[] v = {5, 261, -251, 65541, -65531, 0x7fff0005, 0x7fffff05};
    int[][] right = {
      {8, 1, 1, 1, 1, 1, 1, 1}, {16, 1, 0, 0, 1, 1, 1, 0}, {32, 1, 0, 0, 0, 0, 0, 0},
    };
    for (int[] row : right) {
      for (int i = 0; i < v.length; i++) {
        TwinLights x = Due.told("ship at 5");
        x.sheet(0, row[0], 1);
        Due.is("write(0, 0, " + v[i] + ")", x.write(0, 0, v[i]), 1);
        Due.is("judge(0) of " + v[i] + " in " + row[0] + " bits", x.judge(0), 1 - row[1 + i]);
      }
    }
    // Each number is one of its own: the first, the last.
    TwinLights y = Due.told("ship at 0;ship at 1;ship at 2;ship at 3;ship at 4;ship at 5;ship at 6;"
        + "ship at 7");
    y.sheet(2, 16, 8);
    for (int i = 7; i >= 0; i--) {
      Due.is("write(2, " + i + ", " + i + ")", y.write(2, i, i), 1);
    }
    Due.is("judge(2)", y.judge(2), 0);
    y.write(2, 7, 8);
    Due.is("judge(2), the last", y.judge(2), 8);
    y.write(2, 0, 9);
    Due.is("judge(2), the first", y.judge(2), 1);
  }

  private static void writeMissing() {
    missing("write, number 0", (x, v) -> x.write(v, 0, 1));
    // A missing sheet is told before a number that isn't there.
    missing("write, number -1", (x, v) -> x.write(v, -1, 1));
    missing("write, number 40", (x, v) -> x.write(v, 40, 1));
  }

  private static void writeBeyond() {
    Due.range("write(0, .., 1) of two", 0, 1, SheetsEdges::some, (x, v) -> x.write(0, v, 1));
    Due.range("write(3, .., 1) of five", 0, 4, SheetsEdges::some, (x, v) -> x.write(3, v, 1));
    Due.beyond("write(2, .., 1) of none", SheetsEdges::some, (x, v) -> x.write(2, v, 1), -1, 0, 1);
    for (int bits : WIDTHS) {
      Due.range("write(3, .., 1) of forty", 0, 39, () -> zeros(3, bits, 40),
          (x, v) -> x.write(3, v, 1));
    }
  }

  /** Eight ships at cells 1 to 8, to read a sheet by. */
  private static TwinLights readers(int... numbers) {
    TwinLights x = Due.told("ship at 1;ship at 2;ship at 3;ship at 4;ship at 5;ship at 6;ship at 7;"
        + "ship at 8");
    Due.sheet(x, 0, 1, 2, 3, 4, 5, 6, 7, 8);
    Due.sheet(x, 1, numbers);
    return x;
  }

  private static void reads(String call, TwinLights x, int s, int... due) {
    for (int i = 0; i < due.length; i++) {
      x.change(i, 1, due[i]);
    }
    Due.is("judge(" + s + ") behind " + call, x.judge(s), 0);
    Due.is("one number more behind " + call, x.write(s, due.length, 0), Due.BEYOND);
  }

  private static void copiesFromAndTo() {
    // Row: from, to, n; then what sheet 1 holds.
    int[][] rows = {
      {0, 0, 4, 1, 2, 3, 4}, {4, 0, 4, 5, 6, 7, 8}, {0, 3, 1, 20, 20, 20, 1},
      {7, 0, 1, 8, 20, 20, 20}, {7, 3, 1, 20, 20, 20, 8}, {2, 1, 2, 20, 3, 4, 20},
      {0, 0, 0, 20, 20, 20, 20},
      {8, 4, 0, 20, 20, 20, 20}, {8, 0, 0, 20, 20, 20, 20}, {0, 4, 0, 20, 20, 20, 20},
    };
    for (int[] row : rows) {
      TwinLights x = readers(20, 20, 20, 20);
      String call = "copy(0, " + row[0] + ", 1, " + row[1] + ", " + row[2] + ")";
      Due.is(call, x.copy(0, row[0], 1, row[1], row[2]), row[2]);
      reads(call, x, 1, java.util.Arrays.copyOfRange(row, 3, 7));
      reads(call, x, 0, 1, 2, 3, 4, 5, 6, 7, 8);
    }
    for (int bits : WIDTHS) {
      TwinLights x = Due.told("ship at 0 port");
      x.sheet(2, bits, 40);
      x.sheet(3, bits, 40);
      x.write(2, 39, 1);
      Due.is("kinds(3, 0)", x.kinds(3, 0), 127);
      Due.is("copy() of forty in " + bits + " bits", x.copy(2, 0, 3, 0, 40), 40);
      Due.is("kinds(3, 0), of which the last is 1", x.kinds(3, 0), 0);
      Due.is("copy() of 39", x.copy(3, 0, 2, 1, 39), 39);
      Due.is("kinds(2, 0), of which the last is 0", x.kinds(2, 0), 127);
    }
    // All bits of the greatest come along.
    TwinLights y = Due.told("ship at 3");
    y.sheet(0, 32, 1);
    y.sheet(1, 32, 1);
    y.write(0, 0, 65539);
    y.copy(0, 0, 1, 0, 1);
    Due.is("judge(1) of 65539", y.judge(1), 1);
    y.write(0, 0, -1);
    y.copy(0, 0, 1, 0, 1);
    Due.is("fits(1) of -1", y.fits(1), 4096);
  }

  private static void copiesAsTheyWere() {
    int[][] rows = {
      {0, 1, 3, 1, 1, 2, 3}, {1, 0, 3, 2, 3, 4, 4}, {0, 2, 2, 1, 2, 1, 2}, {2, 0, 2, 3, 4, 3, 4},
      {0, 0, 4, 1, 2, 3, 4}, {3, 0, 1, 4, 2, 3, 4}, {0, 3, 1, 1, 2, 3, 1}, {4, 4, 0, 1, 2, 3, 4},
    };
    for (int[] row : rows) {
      TwinLights x = readers(1, 2, 3, 4);
      String call = "copy(1, " + row[0] + ", 1, " + row[1] + ", " + row[2] + ")";
      Due.is(call, x.copy(1, row[0], 1, row[1], row[2]), row[2]);
      reads(call, x, 1, java.util.Arrays.copyOfRange(row, 3, 7));
    }
  }

  private static void copyBeyond() {
    Due.range("copy(.., 0, 0, 0, 0) of alike ones", 0, 3, SheetsEdges::alike,
        (x, v) -> x.copy(v, 0, 0, 0, 0));
    Due.range("copy(0, 0, .., 0, 0) of alike ones", 0, 3, SheetsEdges::alike,
        (x, v) -> x.copy(0, 0, v, 0, 0));
    // Both numbers are looked at before a sheet is.
    Due.beyond("copy(.., 0, 2, 0, 1), which is missing", Due::eight,
        (x, v) -> x.copy(v, 0, 2, 0, 1), -1, 4);
    Due.beyond("copy(2, 0, .., 0, 1), which is missing", Due::eight,
        (x, v) -> x.copy(2, 0, v, 0, 1), -1, 4);
    Due.beyond("copy(.., -1, 0, -1, -1)", SheetsEdges::some, (x, v) -> x.copy(v, -1, 0, -1, -1), -1,
        4);
  }

  private static TwinLights alike() {
    TwinLights x = Due.told("ship at 3");
    for (int s = 0; s <= 3; s++) {
      Due.sheet(x, s, 3, 3);
    }
    return x;
  }

  private static void copyMissing() {
    for (int s = 0; s <= 3; s++) {
      int one = s;
      int other = (s + 1) % 4;
      Due.refused("copy() of a missing one", Due.MISSING, () -> without(one),
          x -> x.copy(one, 0, other, 0, 0));
      Due.refused("copy() to a missing one", Due.MISSING, () -> without(one),
          x -> x.copy(other, 0, one, 0, 0));
      Due.refused("copy() of a missing one to itself", Due.MISSING, () -> without(one),
          x -> x.copy(one, 0, one, 0, 0));
      // Before from, to and n are looked at.
      Due.refused("copy() of what a missing one has not", Due.MISSING, () -> without(one),
          x -> x.copy(one, -1, other, 41, -1));
    }
  }

  private static void copyKind() {
    for (int bits : WIDTHS) {
      for (int others : WIDTHS) {
        if (bits != others) {
          Due.refused("copy() of " + bits + " bits to " + others, Due.KIND,
              () -> twoSheets(bits, others), x -> x.copy(0, 0, 1, 0, 2));
          Due.refused("copy() of nothing, " + bits + " bits to " + others, Due.KIND,
              () -> twoSheets(bits, others), x -> x.copy(0, 0, 1, 0, 0));
          // Before from, to and n are looked at.
          Due.refused("copy() of too much, " + bits + " bits to " + others, Due.KIND,
              () -> twoSheets(bits, others), x -> x.copy(0, -1, 1, 3, 99));
        }
      }
      Due.is("copy() of " + bits + " bits", twoSheets(bits, bits).copy(0, 0, 1, 0, 2), 2);
    }
  }

  private static TwinLights twoSheets(int bits, int others) {
    TwinLights x = Due.told("ship at 3;ship at 4");
    Due.sheet(x, 0, bits, new int[] {3, 4});
    x.sheet(1, others, 2);
    return x;
  }

  /** Sheet 1 has three numbers, and 3, of as many bits, five. */
  private static void copyRefused(int from, int to, int n) {
    Due.refused("copy(1, " + from + ", 3, " + to + ", " + n + ")", Due.BEYOND, SheetsEdges::some,
        x -> x.copy(1, from, 3, to, n));
    Due.refused("copy(3, " + to + ", 1, " + from + ", " + n + ")", Due.BEYOND, SheetsEdges::some,
        x -> x.copy(3, to, 1, from, n));
  }

  private static void copyNotSoMany() {
    Due.is("copy(1, 0, 3, 0, 3)", some().copy(1, 0, 3, 0, 3), 3);
    Due.is("copy(1, 0, 3, 2, 3)", some().copy(1, 0, 3, 2, 3), 3);
    Due.is("copy(1, 2, 3, 4, 1)", some().copy(1, 2, 3, 4, 1), 1);
    Due.is("copy(1, 3, 3, 5, 0)", some().copy(1, 3, 3, 5, 0), 0);
    copyRefused(0, 0, 4);
    copyRefused(1, 0, 3);
    copyRefused(0, 3, 3);
    copyRefused(3, 0, 1);
    copyRefused(0, 5, 1);
    copyRefused(4, 0, 0);
    copyRefused(0, 6, 0);
    copyRefused(0, 0, 41);
    // Sums that would wrap round.
    copyRefused(1, 0, Due.GREATEST_INT);
    copyRefused(Due.GREATEST_INT, 0, 1);
    copyRefused(0, Due.GREATEST_INT, 1);
    copyRefused(Due.GREATEST_INT, Due.GREATEST_INT, Due.GREATEST_INT);
    Due.refused("copy(1, 1, 1, 0, 3) to itself", Due.BEYOND, SheetsEdges::some,
        x -> x.copy(1, 1, 1, 0, 3));
    Due.refused("copy(2, 0, 2, 0, 1) of no number", Due.BEYOND, SheetsEdges::some,
        x -> x.copy(2, 0, 2, 0, 1));
    Due.is("copy(2, 0, 2, 0, 0) of no number", some().copy(2, 0, 2, 0, 0), 0);
  }

  private static void copyBelow0() {
    copyRefused(-1, 0, 1);
    copyRefused(0, -1, 1);
    copyRefused(0, 0, -1);
    copyRefused(-1, 0, 0);
    copyRefused(0, -1, 0);
    copyRefused(2, 2, -1);
    copyRefused(Due.LEAST_INT, 0, 1);
    copyRefused(0, Due.LEAST_INT, 1);
    copyRefused(0, 0, Due.LEAST_INT);
    copyRefused(1, 1, Due.LEAST_INT);
  }

  private static void loads() {
    TwinLights x = Due.eight();
    Due.sheet(x, 3, 5, 4, 3, 2, 1, 0, 5, 4);
    Due.is("load(3) of eight", x.load(3), 8);
    Due.each("load(3) of eight", x, 3, 5, 4, 3, 2, 1, 0, 5, 4);
    Due.sheet(x, 0, 2);
    Due.is("load(0) of one", x.load(0), 1);
    Due.each("load(0) of one", x, 3, 2, 4, 3, 2, 1, 0, 5, 4);
    Due.sheet(x, 0);
    Due.is("load(0) of none", x.load(0), 0);
    Due.each("load(0) of none", x, 3, 2, 4, 3, 2, 1, 0, 5, 4);
    Due.is("status(-1)", x.status(-1), 0);
  }

  private static void loadsUpToNoSpeed() {
    for (int no : new int[] {6, -1, 127, -128}) {
      TwinLights x = Due.eight();
      Due.sheet(x, 0, no, 3, 3);
      Due.is("load(0), the first is " + no, x.load(0), 0);
      Due.each("load(0) of none", x, 3, 1, 1, 1);
      Due.sheet(x, 0, 0, 5, no, 3);
      Due.is("load(0), the third is " + no, x.load(0), 2);
      Due.each("load(0) of two", x, 3, 0, 5, 1, 1);
    }
    // 256 and 65536 are 0 by their lowest bits, where there are no more.
    int[][] rows = {{8, 256, 1}, {16, 256, 0}, {16, 65536, 1}, {32, 65536, 0}, {32, 6, 0},
        {32, 5, 1}};
    for (int[] row : rows) {
      TwinLights x = Due.eight();
      Due.sheet(x, 0, row[0], new int[] {row[1]});
      Due.is("load(0) of " + row[1] + " in " + row[0] + " bits", x.load(0), row[2]);
    }
  }

  private static void loadsUpToNoShip() {
    TwinLights x = Due.told("ship;ship");
    Due.sheet(x, 0, 2, 3, 4);
    Due.is("load(0) of three for two", x.load(0), 2);
    Due.each("load(0)", x, 3, 2, 3);
    // The ship that comes then is as each new one.
    x.ship(0, 5);
    Due.is("of(2, 3)", x.of(2, 3), 1);
    Due.is("load(0) of three for three", x.load(0), 3);
    TwinLights none = new TwinLights();
    Due.sheet(none, 0, 2, 2);
    Due.is("load(0) without ships", none.load(0), 0);
    TwinLights eight = Due.eight();
    eight.sheet(0, 32, 40);
    Due.is("load(0) of forty for eight", eight.load(0), 8);
    Due.each("load(0) of forty", eight, 3, 0, 0, 0, 0, 0, 0, 0, 0);
    Due.is("status(-1)", eight.status(-1), 0);
  }

  private static void judgesRight() {
    TwinLights x = Due.told("ship at 0;ship at 23 port;ship at 11");
    int[][] rows = {{}, {0}, {0, 23}, {0, 23, 11}};
    for (int[] row : rows) {
      for (int bits : WIDTHS) {
        Due.sheet(x, 0, bits, row);
        Due.is("judge(0) of " + row.length, x.judge(0), 0);
      }
    }
    TwinLights none = new TwinLights();
    none.sheet(0, 8, 0);
    Due.is("judge(0) of no number, without ships", none.judge(0), 0);
    Due.is("status(-1)", x.status(-1) + none.status(-1), 0);
  }

  private static void judgesWrong() {
    TwinLights x = readers(0);
    for (int i = 0; i < 8; i++) {
      for (int no : new int[] {-1, 0, 9, i, i + 2, 127}) {
        Due.sheet(x, 0, 1, 2, 3, 4, 5, 6, 7, 8);
        x.write(0, i, no);
        Due.is("judge(0), number " + i + " is " + no, x.judge(0), 1 + i);
        x = readers(0);
      }
    }
    Due.sheet(x, 0, 1, 2, 4, 4, 5, 5);
    Due.is("judge(0), the first of two", x.judge(0), 3);
    // A number for which there is no ship isn't the cell of one.
    Due.sheet(x, 0, 1, 2, 3, 4, 5, 6, 7, 8, 0);
    Due.is("judge(0) of nine for eight", x.judge(0), 9);
    TwinLights none = new TwinLights();
    Due.sheet(none, 0, 0);
    Due.is("judge(0) of one, without ships", none.judge(0), 1);
    x.sheet(0, 32, 40);
    for (int i = 0; i < 8; i++) {
      x.write(0, i, i + 1);
    }
    Due.is("judge(0) of forty for eight", x.judge(0), 9);
    x.write(0, 0, 65537);
    Due.is("judge(0) of 65537 in 32 bits", x.judge(0), 1);
    Due.is("status(-1)", x.status(-1) + none.status(-1), 0);
  }
}
