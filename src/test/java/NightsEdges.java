/** The edges of promises 26 to 28: nights, odds, seed. */
final class NightsEdges {
  /** So many are looked through for one that draws what a test needs. */
  private static final int SEEDS = 2000;

  private NightsEdges() {}

  static void all() {
    Words.of(26, "n times (1 to 20) two draws:", NightsEdges::from1To20);
    Words.of(26, "bit (the first one's rest by 12) of THE PATTERN is turned;",
        NightsEdges::turnsEachBit);
    Words.of(26, "SPEED of the SHIP of the second one's rest by 8,", NightsEdges::quickensEachShip);
    Words.of(26, "if there is one,", NightsEdges::noSuchShip);
    Words.of(26, "is 1 more (5 at most);", NightsEdges::speedAtItsMost);
    Words.of(26, "then a TICK:", NightsEdges::thenATick);
    Words.of(26, "STRANDED of all together then.", NightsEdges::tellsStranded);
    Words.of(26, "BEYOND.", () -> Due.range("nights", 1, 20, Due::eight, (x, v) -> x.nights(v)));
    Words.of(27, "The odds that n (0 to 17) TICKS, each the rest by 12 of a draw,",
        NightsEdges::oddsFrom0To17);
    Words.of(27, "are all such on which THE FIRST shows light:", NightsEdges::oddsOfNoneAndAll);
    Words.of(27, "a fraction in lowest terms: above (what 0), below the line (1).",
        NightsEdges::lowestTerms);
    Words.of(27, "BEYOND.", NightsEdges::oddsBeyond);
    Words.of(28, "z becomes v: what it was.", NightsEdges::anySeed);
  }

  private static long next(long z) {
    return (z * 1103515245L + 12345) & 0xffffffffL;
  }

  /** A seed of which the first draw's rest by 12 and the second one's by 8 are these. */
  private static int seedOf(int bit, int ship) {
    for (int z = 0; z < SEEDS; z++) {
      long once = next(z);
      if (once / 256 % 12 == bit && next(once) / 256 % 8 == ship) {
        return z;
      }
    }
    throw new IllegalStateException("no seed for " + bit + " and " + ship);
  }

  private static void from1To20() {
    for (int n : new int[] {1, 20}) {
      TwinLights x = new TwinLights();
      x.nights(n);
      long z = 1;
      int pattern = 5;
      for (int i = 0; i < n; i++) {
        z = next(z);
        pattern ^= 1 << (int) (z / 256 % 12);
        z = next(z);
      }
      Due.is("count(6) behind nights(" + n + ")", x.count(6) & 0xffffffffL, z);
      Due.is("light(0) behind nights(" + n + ")", x.light(0), pattern);
      Due.is("count(0) behind nights(" + n + ")", x.count(0), n);
    }
  }

  private static void turnsEachBit() {
    for (int bit = 0; bit <= 11; bit++) {
      for (int pattern : new int[] {0, 4095}) {
        TwinLights x = new TwinLights();
        x.set(0, pattern);
        x.seed(seedOf(bit, 7));
        x.nights(1);
        Due.is("light(0), bit " + bit + " of " + pattern, x.light(0), pattern ^ 1 << bit);
      }
    }
  }

  private static void quickensEachShip() {
    for (int ship = 0; ship <= 7; ship++) {
      TwinLights x = Due.eight();
      x.change(ship, 4, 1);
      x.seed(seedOf(3, ship));
      x.nights(1);
      for (int other = 0; other <= 7; other++) {
        Due.is("of(" + other + ", 3) behind " + ship, x.of(other, 3), other == ship ? 2 : 1);
      }
    }
  }

  private static void noSuchShip() {
    for (int ships = 0; ships <= 7; ships++) {
      TwinLights x = new TwinLights();
      for (int i = 0; i < ships; i++) {
        x.ship(0, 11);
      }
      x.seed(seedOf(3, ships));
      x.nights(1);
      for (int i = 0; i < ships; i++) {
        Due.is("of(" + i + ", 3) of " + ships, x.of(i, 3), 1);
      }
      Due.is("count(1)", x.count(1), ships);
      // The one that comes next has SPEED 1, as each new one.
      x.ship(0, 11);
      Due.is("of(" + ships + ", 3), a new one", x.of(ships, 3), 1);
    }
  }

  private static void speedAtItsMost() {
    int[][] rows = {{0, 1}, {3, 4}, {4, 5}, {5, 5}};
    for (int[] row : rows) {
      TwinLights x = Due.eight();
      x.change(7, 3, row[0]);
      x.seed(seedOf(0, 7));
      x.nights(1);
      Due.is("of(7, 3) behind " + row[0], x.of(7, 3), row[1]);
    }
  }

  private static void thenATick() {
    // Bit 0 is turned before the tick shows it; the ship is quicker before it goes.
    TwinLights x = Due.told("pattern 0;book 0;ship at 5;ship at 9");
    x.seed(seedOf(0, 1));
    x.nights(1);
    Due.is("light(3)", x.light(3), 1);
    Due.ship("light on the tick itself", x, 0, 5, 1, 0, 2);
    x.set(0, 0);
    x.seed(seedOf(0, 1));
    x.nights(1);
    Due.ship("a dark tick", x, 1, 12, 1, 0, 2);
    Due.is("light(3)", x.light(3), 2);
    Due.is("count(0)", x.count(0), 2);
  }

  private static void tellsStranded() {
    TwinLights x = Due.told("pattern 0;ship at 22;ship at 5 port");
    x.change(1, 5, 9999);
    x.seed(seedOf(5, 7));
    Due.is("nights(1)", x.nights(1), 10000);
  }

  private static void oddsFrom0To17() {
    TwinLights x = new TwinLights();
    x.set(0, 1);
    long below = 1;
    for (int n = 0; n <= 17; n++) {
      Due.is("odds(" + n + ", 0) of one", x.odds(n, 0), 1);
      Due.is("odds(" + n + ", 1) of one", x.odds(n, 1), below);
      below *= 12;
    }
    Due.is("odds(17, 1) of one", x.odds(17, 1), 2218611106740436992L);
    Due.is("count(6): nothing is drawn", x.count(6), 1);
  }

  private static void oddsOfNoneAndAll() {
    TwinLights x = new TwinLights();
    for (int n = 0; n <= 17; n++) {
      x.set(0, 0);
      Due.is("odds(" + n + ", 0) of none", x.odds(n, 0), n == 0 ? 1 : 0);
      Due.is("odds(" + n + ", 1) of none", x.odds(n, 1), 1);
      x.set(0, 4095);
      Due.is("odds(" + n + ", 0) of all", x.odds(n, 0), 1);
      Due.is("odds(" + n + ", 1) of all", x.odds(n, 1), 1);
    }
    x.set(0, 2048);
    Due.is("odds(1, 1) of the last bit", x.odds(1, 1), 12);
  }

  private static void lowestTerms() {
    int[][] rows = {{0, 0, 1}, {1, 1, 12}, {2, 1, 6}, {3, 1, 4}, {4, 1, 3}, {5, 5, 12}, {6, 1, 2},
        {7, 7, 12}, {8, 2, 3}, {9, 3, 4}, {10, 5, 6}, {11, 11, 12}, {12, 1, 1}};
    for (int[] row : rows) {
      TwinLights x = new TwinLights();
      x.set(0, (1 << row[0]) - 1);
      long above = 1;
      long below = 1;
      for (int n = 0; n <= 17; n++) {
        Due.is("odds(" + n + ", 0) of " + row[0], x.odds(n, 0), above);
        Due.is("odds(" + n + ", 1) of " + row[0], x.odds(n, 1), below);
        above *= row[1];
        below *= row[2];
      }
    }
    // The greatest above the line.
    TwinLights y = new TwinLights();
    y.set(0, 2047);
    Due.is("odds(17, 0) of eleven", y.odds(17, 0), 505447028499293771L);
  }

  private static void oddsBeyond() {
    Due.range("odds(.., 0)", 0, 17, TwinLights::new, (x, v) -> x.odds(v, 0));
    Due.range("odds(17, ..)", 0, 1, TwinLights::new, (x, v) -> x.odds(17, v));
  }

  private static void anySeed() {
    TwinLights x = new TwinLights();
    int was = 1;
    for (int v : new int[] {0, -1, Due.LEAST_INT, Due.GREATEST_INT, 1}) {
      Due.is("seed(" + v + ")", x.seed(v), was);
      Due.is("count(6)", x.count(6), v);
      was = v;
    }
  }
}
