/** The edges of promises 8 and 9: go, now. */
final class TicksEdges {
  private TicksEdges() {}

  static void all() {
    Words.of(8, "n TICKS (1 to 60):", TicksEdges::from1To60);
    Words.of(8, "STRANDED of all together then.", TicksEdges::goTellsStranded);
    Words.of(8, "BEYOND.", () -> Due.range("go", 1, 60, Due::eight, (x, v) -> x.go(v)));
    Words.of(9, "What 0 TICK,", TicksEdges::nowTick);
    Words.of(9, "1 STRANDED of all together, 2 SAW of all together,", TicksEdges::nowSums);
    Words.of(9, "3 SHIPS in PORT, as a set,", TicksEdges::nowInPort);
    Words.of(9, "4 CELLS with SHIPS (not in PORT), as a set,", TicksEdges::nowCells);
    Words.of(9, "5 the SHIP nearest to THE FIRST (not in PORT; of several the least; -1: there is"
        + " none),", TicksEdges::nowNearest);
    Words.of(9, "6 how many bits of THE PAST are 1.", TicksEdges::nowBits);
    Words.of(9, "BEYOND.", () -> Due.range("now", 0, 6, Due::eight, (x, v) -> x.now(v)));
  }

  private static void from1To60() {
    TwinLights x = Due.told("pattern 0;ship at 0");
    x.go(1);
    Due.is("now(0)", x.now(0), 1);
    Due.is("of(0, 1)", x.of(0, 1), 1);
    x.go(60);
    Due.is("now(0)", x.now(0), 61);
    // To 23 on tick 22, to 0 on tick 33, to 23 on tick 45, to 0 on tick 56.
    Due.ship("61 ticks", x, 0, 15, 1, 4, 0);
  }

  private static void goTellsStranded() {
    TwinLights x = Due.told("pattern 0;ship at 22;ship at 22;ship at 5 port");
    x.change(2, 5, 9999);
    Due.is("go(1)", x.go(1), 10001);
    TwinLights full = mostOf(5);
    Due.is("go(60) of eight at their most", full.go(60), 79992);
  }

  /** Eight ships of which each has this value at its most. */
  private static TwinLights mostOf(int what) {
    TwinLights x = Due.eight();
    for (int ship = 0; ship < 8; ship++) {
      x.change(ship, what, 9999);
    }
    return x;
  }

  private static void nowTick() {
    TwinLights x = new TwinLights();
    Due.is("now(0)", x.now(0), 0);
    x.go(60);
    Due.is("now(0)", x.now(0), 60);
  }

  private static void nowSums() {
    Due.is("now(1) of none", new TwinLights().now(1), 0);
    Due.is("now(2) of none", new TwinLights().now(2), 0);
    Due.is("now(1) of eight at their most", mostOf(5).now(1), 79992);
    Due.is("now(2) of them", mostOf(5).now(2), 0);
    Due.is("now(2) of eight at their most", mostOf(6).now(2), 79992);
    Due.is("now(1) of them", mostOf(6).now(1), 0);
    TwinLights x = Due.told("ship port;ship");
    x.change(0, 5, 3);
    x.change(0, 6, 4);
    Due.is("now(1), one in port", x.now(1), 3);
    Due.is("now(2), one in port", x.now(2), 4);
  }

  private static void nowInPort() {
    TwinLights x = Due.eight();
    Due.is("now(3) of none in port", x.now(3), 0);
    for (int ship = 0; ship < 8; ship++) {
      x.change(ship, 4, 1);
      Due.is("now(3) of " + (ship + 1) + " in port", x.now(3), (2 << ship) - 1);
    }
    x.change(0, 4, 0);
    Due.is("now(3) without 0", x.now(3), 254);
    // A ship that is no more doesn't count, even if it was in port.
    TwinLights y = new TwinLights();
    y.image();
    y.ship(0, 3);
    y.change(0, 4, 1);
    y.undo();
    Due.is("now(3) of a ship that is no more", y.now(3), 0);
  }

  private static void nowCells() {
    TwinLights x = Due.told("ship at 0;ship at 23;ship at 0;ship at 5 port");
    Due.is("now(4)", x.now(4), 1 << 23 | 1);
    x.change(0, 4, 1);
    Due.is("now(4), one of two in port", x.now(4), 1 << 23 | 1);
    x.change(2, 4, 1);
    Due.is("now(4), both in port", x.now(4), 1 << 23);
    x.change(1, 4, 1);
    Due.is("now(4), all in port", x.now(4), 0);
    Due.is("now(4) of none", new TwinLights().now(4), 0);
  }

  private static void nowNearest() {
    Due.is("now(5) of none", new TwinLights().now(5), -1);
    TwinLights x = Due.told("ship at0port;ship at23;ship at7;ship at6;ship at6;ship at0port");
    Due.is("now(5)", x.now(5), 3);
    x.change(3, 4, 1);
    Due.is("now(5), one of two in port", x.now(5), 4);
    x.change(4, 4, 1);
    Due.is("now(5), both in port", x.now(5), 2);
    x.change(2, 4, 1);
    Due.is("now(5) of one at 23", x.now(5), 1);
    x.change(1, 4, 1);
    Due.is("now(5), all in port", x.now(5), -1);
    Due.is("status(-1): none is no finding", x.status(-1), 0);
    x.change(5, 4, 0);
    Due.is("now(5) of one at 0", x.now(5), 5);
    x.change(0, 4, 0);
    Due.is("now(5) of two at 0", x.now(5), 0);
  }

  private static void nowBits() {
    TwinLights x = new TwinLights();
    int[][] rows = {{0, 0}, {1, 1}, {8388608, 1}, {8388609, 2}, {16777214, 23}, {16777215, 24}};
    for (int[] row : rows) {
      x.set(3, row[0]);
      Due.is("now(6) of " + row[0], x.now(6), row[1]);
    }
  }
}
