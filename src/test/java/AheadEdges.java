/** The edges of promises 10 to 15: ahead, shows, strands, when, meet, period. */
final class AheadEdges {
  private AheadEdges() {}

  static void all() {
    Words.of(10, "What 1, 2, 5, 6 (as in of()) of a SHIP", AheadEdges::aheadTellsFour);
    Words.of(10, "behind n (0 to 100) TICKS.", AheadEdges::aheadFrom0To100);
    Words.of(10, "BEYOND.", AheadEdges::aheadBeyond);
    Words.of(11, "What THE FIRST (which 0), THE SECOND (1) shows on the TICK behind n (0 to 100)"
        + " others.", AheadEdges::showsFrom0To100);
    Words.of(11, "BEYOND.", AheadEdges::showsBeyond);
    Words.of(12,
        "Behind how many TICKS (1 to 200, the fewest) STRANDED of a SHIP is more than now.",
        AheadEdges::strandsFrom1To200);
    Words.of(12, "BEYOND.", () -> shipsOnly("strands", (x, v) -> x.strands(v)));
    Words.of(12, "NONE.", AheadEdges::strandsNever);
    Words.of(13, "Behind how many TICKS (0 to 200, the fewest) a SHIP is AT a CELL.",
        AheadEdges::whenFrom0To200);
    Words.of(13, "BEYOND.", AheadEdges::whenBeyond);
    Words.of(13, "NONE.", AheadEdges::whenNever);
    Words.of(14, "Behind how many TICKS (0 to 200, the fewest) two SHIPS are AT one CELL",
        AheadEdges::meetFrom0To200);
    Words.of(14, "(in PORT or not).", AheadEdges::meetInPort);
    Words.of(14, "BEYOND:", AheadEdges::meetBeyond);
    Words.of(14, "also one and the same.", AheadEdges::meetOneAndTheSame);
    Words.of(14, "NONE.", AheadEdges::meetNever);
    Words.of(15,
        "The least number of TICKS (1 to 12) such that THE PATTERN turned round by it is the "
            + "same.",
        AheadEdges::periodFrom1To12);
    Words.of(Words.INTERFACE, "---- what will be (nothing changes).", AheadEdges::nothingChanges);
  }

  /** The ships of a sea are taken by their numbers, and nothing is where there are none. */
  private static void shipsOnly(String call, Due.Call act) {
    Due.range(call + "(..) of eight", 0, 7, Due::eight, act);
    Due.range(call + "(..) of one", 0, 0, () -> Due.told("ship"), act);
    Due.beyond(call + "(..) of none", TwinLights::new, act, -1, 0);
  }

  private static void aheadTellsFour() {
    TwinLights x = Due.told("pattern 0;ship at 21;ship at 3 back port");
    x.change(0, 5, 8);
    x.change(0, 6, 9);
    x.change(1, 5, 7);
    x.change(1, 6, 6);
    int[] whats = {1, 2, 5, 6};
    int[][] due = {{21, 1, 8, 9}, {22, 1, 8, 9}, {11, 0, 9, 9}, {10, 0, 9, 9}};
    int[] inPort = {3, 0, 7, 6};
    for (int n = 0; n <= 3; n++) {
      for (int i = 0; i < 4; i++) {
        String rest = ", " + whats[i] + ", " + n + ")";
        Due.is("ahead(0" + rest, x.ahead(0, whats[i], n), due[n][i]);
        Due.is("ahead(1" + rest, x.ahead(1, whats[i], n), inPort[i]);
      }
    }
  }

  private static void aheadFrom0To100() {
    // In the dark from 15 it strands on ticks 7, 18, 30, 41, 53, 64, 76, 87 and 99.
    TwinLights x = Due.told("pattern 0;ship at 15");
    int[][] rows = {{0, 15, 0}, {1, 16, 0}, {7, 22, 0}, {8, 11, 1}, {99, 22, 8}, {100, 11, 9}};
    for (int[] row : rows) {
      Due.is("ahead(0, 1, " + row[0] + ")", x.ahead(0, 1, row[0]), row[1]);
      Due.is("ahead(0, 5, " + row[0] + ")", x.ahead(0, 5, row[0]), row[2]);
    }
    Due.is("ahead(0, 2, 99)", x.ahead(0, 2, 99), 1);
    Due.is("ahead(0, 2, 100)", x.ahead(0, 2, 100), 0);
    // Both lights are seen, on every tick: 200 times in 100 of them.
    TwinLights y = Due.told("pattern 4095;book 0;ship");
    Due.is("ahead(0, 6, 0)", y.ahead(0, 6, 0), 0);
    Due.is("ahead(0, 6, 99)", y.ahead(0, 6, 99), 198);
    Due.is("ahead(0, 6, 100)", y.ahead(0, 6, 100), 200);
    y.change(0, 6, 9900);
    Due.is("ahead(0, 6, 49)", y.ahead(0, 6, 49), 9998);
    Due.is("ahead(0, 6, 50) at its most", y.ahead(0, 6, 50), 9999);
    Due.is("ahead(0, 6, 100) at its most", y.ahead(0, 6, 100), 9999);
    Due.range("ahead(0, 1, ..)", 0, 100, Due::eight, (z, v) -> z.ahead(0, 1, v));
  }

  private static void aheadBeyond() {
    shipsOnly("ahead, ship", (x, v) -> x.ahead(v, 1, 0));
    Due.taken("ahead, what", Due::eight, (x, v) -> x.ahead(7, v, 100), 1, 2, 5, 6);
    Due.beyond("ahead, what", Due::eight, (x, v) -> x.ahead(7, v, 100), -1, 0, 3, 4, 7, 8, 9,
        Due.LEAST_INT, Due.GREATEST_INT);
    Due.range("ahead(7, 6, ..)", 0, 100, Due::eight, (x, v) -> x.ahead(7, 6, v));
  }

  private static void showsFrom0To100() {
    // 99 is 3 and 100 is 4, modulo 12.
    TwinLights x = Due.told("pattern 16;lag 0");
    int[][] rows = {{0, 0}, {3, 0}, {4, 1}, {5, 0}, {16, 1}, {99, 0}, {100, 1}};
    for (int[] row : rows) {
      Due.is("shows(0, " + row[0] + ")", x.shows(0, row[0]), row[1]);
      Due.is("shows(1, " + row[0] + ") with LAG 0", x.shows(1, row[0]), row[1]);
    }
    x.set(1, 23);
    x.set(3, 0b10000000000000000000001);
    // The past answers up to tick 22, bit 22 first and bit 0 last; then the pattern does.
    int[][] by23 = {{0, 1}, {1, 0}, {21, 0}, {22, 1}, {23, 0}, {26, 0}, {27, 1}, {28, 0}, {87, 1},
        {99, 1}, {100, 0}};
    for (int[] row : by23) {
      Due.is("shows(1, " + row[0] + ") with LAG 23", x.shows(1, row[0]), row[1]);
    }
    x.set(2, 0);
    Due.is("shows(1, 100) with the book closed", x.shows(1, 100), 1);
    Due.is("shows(1, 99) with the book closed", x.shows(1, 99), 0);
  }

  private static void showsBeyond() {
    Due.range("shows(.., 0)", 0, 1, TwinLights::new, (x, v) -> x.shows(v, 0));
    Due.range("shows(0, ..)", 0, 100, TwinLights::new, (x, v) -> x.shows(0, v));
    Due.range("shows(1, ..)", 0, 100, TwinLights::new, (x, v) -> x.shows(1, v));
  }

  /** A GHOST that goes a cell on ticks 11, 23, .. alone: it sees both where none is shown. */
  private static TwinLights slowGhost(int cell, int ticks) {
    TwinLights x = Due.told("pattern 2048;book 0;ghost");
    x.change(0, 1, cell);
    if (ticks > 0) {
      x.go(ticks);
    }
    return x;
  }

  private static void strandsFrom1To200() {
    TwinLights x = Due.told("pattern 0;ship at 22;ship at 21;ship at 23 speed 5;ship at 1 back");
    int[] due = {1, 2, 1, 1};
    for (int ship = 0; ship < due.length; ship++) {
      Due.is("strands(" + ship + ")", x.strands(ship), due[ship]);
    }
    // From 6 it takes 17 steps, of which the last is on tick 203.
    Due.is("strands(0), 200 on", slowGhost(6, 4).strands(0), 200);
    Due.is("strands(0), 199 on", slowGhost(6, 5).strands(0), 199);
    Due.refused("strands(0), 201 on", Due.NONE, () -> slowGhost(6, 3), y -> y.strands(0));
    // More than now: not more than 0.
    x.change(0, 5, 9998);
    Due.is("strands(0) of one that stranded 9998 times", x.strands(0), 1);
  }

  private static void strandsNever() {
    Due.refused("strands(0) in port", Due.NONE, () -> Due.told("pattern 0;ship at 22 port"),
        x -> x.strands(0));
    Due.refused("strands(0) without speed", Due.NONE, () -> Due.told("pattern 0;ship at23 speed0"),
        x -> x.strands(0));
    Due.refused("strands(0) at its most", Due.NONE, AheadEdges::strandedAtItsMost,
        x -> x.strands(0));
  }

  private static TwinLights strandedAtItsMost() {
    TwinLights x = Due.told("pattern 0;ship at 22");
    x.change(0, 5, 9999);
    return x;
  }

  private static void whenFrom0To200() {
    TwinLights x = Due.told("pattern 0;ship at 21;ship at 0;ship at 23 back;ship at 0 port");
    Due.is("when(0, 21)", x.when(0, 21), 0);
    Due.is("when(0, 22)", x.when(0, 22), 1);
    Due.is("when(0, 11)", x.when(0, 11), 2);
    Due.is("when(0, 10)", x.when(0, 10), 3);
    // Twice it comes by: the first time counts.
    Due.is("when(0, 12)", x.when(0, 12), 14);
    Due.is("when(1, 0)", x.when(1, 0), 0);
    Due.is("when(2, 23)", x.when(2, 23), 0);
    Due.is("when(3, 0) in port", x.when(3, 0), 0);
    Due.is("when(0, 21), 200 on", slowGhost(4, 4).when(0, 21), 200);
    Due.is("when(0, 21), 199 on", slowGhost(4, 5).when(0, 21), 199);
    Due.refused("when(0, 21), 201 on", Due.NONE, () -> slowGhost(4, 3), y -> y.when(0, 21));
  }

  private static void whenBeyond() {
    shipsOnly("when, ship", (x, v) -> x.when(v, 11));
    Due.range("when(0, ..)", 0, 23, Due::eight, (x, v) -> x.when(0, v));
  }

  private static void whenNever() {
    Due.refused("when(0, 6) in port", Due.NONE, () -> Due.told("pattern 0;ship at 5 port"),
        x -> x.when(0, 6));
    Due.refused("when(0, 6) without speed", Due.NONE, () -> Due.told("pattern 0;ship at 5 speed 0"),
        x -> x.when(0, 6));
    // What strands at the end is AT 11 behind that tick.
    Due.refused("when(0, 23)", Due.NONE, () -> Due.told("pattern 0;ship at 5"),
        x -> x.when(0, 23));
    Due.refused("when(0, 0)", Due.NONE, () -> Due.told("pattern 0;ship at 5"), x -> x.when(0, 0));
  }

  private static void meetFrom0To200() {
    TwinLights x = Due.told("pattern 0;ship at 5;ship at 5;ship at 7 back;ship at 9 back;"
        + "ship at 7 speed 0");
    Due.is("meet(0, 1)", x.meet(0, 1), 0);
    Due.is("meet(0, 2)", x.meet(0, 2), 1);
    Due.is("meet(2, 0)", x.meet(2, 0), 1);
    Due.is("meet(0, 3)", x.meet(0, 3), 2);
    Due.is("meet(0, 4)", x.meet(0, 4), 2);
    Due.is("meet(0, 1), 200 on", twoGhosts(4).meet(0, 1), 200);
    Due.is("meet(1, 0), 199 on", twoGhosts(5).meet(1, 0), 199);
    Due.refused("meet(0, 1), 201 on", Due.NONE, () -> twoGhosts(3), y -> y.meet(0, 1));
  }

  /** A slow GHOST, and a ship in port where it comes on tick 203. */
  private static TwinLights twoGhosts(int ticks) {
    TwinLights x = slowGhost(4, ticks);
    x.ship(0, 21);
    x.change(1, 4, 1);
    return x;
  }

  private static void meetInPort() {
    TwinLights x = Due.told("pattern 0;ship at 5 port;ship at 5 port;ship at 3;ship at 8 port");
    Due.is("meet(0, 1), both in port", x.meet(0, 1), 0);
    Due.is("meet(0, 2), one in port", x.meet(0, 2), 2);
    Due.is("meet(2, 0), one in port", x.meet(2, 0), 2);
    Due.is("meet(3, 2), one in port", x.meet(3, 2), 5);
  }

  private static void meetBeyond() {
    Due.range("meet(.., 3) of eight", 0, 7, Due::eight, (x, v) -> x.meet(v, v == 3 ? 4 : 3));
    Due.range("meet(3, ..) of eight", 0, 7, Due::eight, (x, v) -> x.meet(3, v));
    Due.range("meet(.., 0) of two", 1, 1, AheadEdges::two, (x, v) -> x.meet(v, 0));
    Due.range("meet(0, ..) of two", 1, 1, AheadEdges::two, (x, v) -> x.meet(0, v));
    Due.beyond("meet(.., 1) of none", TwinLights::new, (x, v) -> x.meet(v, 1), 0, 1);
  }

  private static TwinLights two() {
    return Due.told("ship at 3;ship at 3");
  }

  private static void meetOneAndTheSame() {
    for (int ship = 0; ship <= 7; ship++) {
      int one = ship;
      Due.refused("meet(" + ship + ", " + ship + ")", Due.BEYOND, Due::eight,
          x -> x.meet(one, one));
    }
    Due.refused("meet(8, 8)", Due.BEYOND, Due::eight, x -> x.meet(8, 8));
    Due.refused("meet(-1, -1)", Due.BEYOND, Due::eight, x -> x.meet(-1, -1));
  }

  private static void meetNever() {
    Due.refused("meet(0, 1) in port", Due.NONE, () -> Due.told("ship at 3 port;ship at 4 port"),
        x -> x.meet(0, 1));
    Due.refused("meet(0, 1) side by side", Due.NONE, () -> Due.told("pattern 0;ship at3;ship at4"),
        x -> x.meet(0, 1));
  }

  private static void periodFrom1To12() {
    for (int pattern = 0; pattern <= 4095; pattern++) {
      int due = 1;
      while (turned(pattern, due) != pattern) {
        due++;
      }
      TwinLights x = new TwinLights();
      x.set(0, pattern);
      Due.is("period() of " + pattern, x.period(), due);
    }
    int[][] rows = {{0, 1}, {4095, 1}, {1365, 2}, {2730, 2}, {585, 3}, {273, 4}, {65, 6}, {1, 12},
        {2048, 12}, {2047, 12}};
    for (int[] row : rows) {
      TwinLights x = new TwinLights();
      x.set(0, row[0]);
      Due.is("period() of " + row[0], x.period(), row[1]);
    }
  }

  private static int turned(int pattern, int by) {
    int turned = 0;
    for (int bit = 0; bit < 12; bit++) {
      turned += (pattern >> bit) % 2 << (bit + by) % 12;
    }
    return turned;
  }

  private static void nothingChanges() {
    TwinLights x = Due.eight();
    x.go(60);
    x.image();
    x.ahead(3, 1, 100);
    x.shows(0, 100);
    x.shows(1, 100);
    x.strands(2);
    x.when(1, 22);
    x.meet(0, 6);
    x.period();
    TwinLights same = Due.eight();
    same.go(60);
    same.image();
    Due.same("looking ahead", Spent.learned(x), Spent.learned(same));
  }
}
