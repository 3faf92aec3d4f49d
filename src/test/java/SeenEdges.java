/** The edges of promises 22 to 25: lags, fits, pattern, kinds. */
final class SeenEdges {
  private static final int ALL_LAGS = 16777215;
  private static final int ALL_PATTERNS = 4096;
  private static final int ALL_KINDS = 127;

  private SeenEdges() {}

  static void all() {
    Words.of(22, "LAGS that it could be, as a set,", SeenEdges::lagsFrom0To23);
    Words.of(22, "so that THE SECOND shows on this TICK and each one further on",
        SeenEdges::lagsFromThisTickOn);
    Words.of(22, "what a sheet tells (1, 0; -1: any).", SeenEdges::lagsByNumbers);
    Words.of(22, "BEYOND: no such sheet.", () -> sheetsOnly("lags", (x, v) -> x.lags(v)));
    Words.of(22, "MISSING.", () -> missing("lags", (x, v) -> x.lags(v)));
    Words.of(23, "How many PATTERNS (0 to 4095) it could be,", SeenEdges::patternsFrom0To4095);
    Words.of(23, "likewise.", SeenEdges::patternsFromThisTickOn);
    Words.of(23, "BEYOND: no such sheet.", () -> sheetsOnly("fits", (x, v) -> x.fits(v)));
    Words.of(23, "MISSING.", () -> missing("fits", (x, v) -> x.fits(v)));
    Words.of(24, "The least of them.", SeenEdges::leastPattern);
    Words.of(24, "BEYOND,", () -> sheetsOnly("pattern", (x, v) -> x.pattern(v)));
    Words.of(24, "MISSING likewise.", () -> missing("pattern", (x, v) -> x.pattern(v)));
    Words.of(24, "NONE.", SeenEdges::noPattern);
    Words.of(25, "KINDS that a SHIP could be of, as a set,", SeenEdges::kindsFrom0To6);
    Words.of(25, "so that its CELL now and behind each TICK further on is as a sheet tells",
        SeenEdges::kindsFromNowOn);
    Words.of(25, "(-1: any).", SeenEdges::kindsByNumbers);
    Words.of(25, "BEYOND: no such sheet.", () -> sheetsOnly("kinds", (x, v) -> x.kinds(v, 0)));
    Words.of(25, "MISSING.", SeenEdges::kindsMissing);
    Words.of(25, "BEYOND: no such SHIP.", SeenEdges::kindsOfNoShip);
  }

  /** Eight ships and four sheets, of which none is missing. */
  private static TwinLights fourSheets() {
    TwinLights x = Due.eight();
    x.sheet(0, 8, 0);
    x.sheet(1, 8, 2);
    x.sheet(2, 16, 2);
    x.sheet(3, 32, 40);
    return x;
  }

  private static void sheetsOnly(String call, Due.Call act) {
    Due.range(call, 0, 3, SeenEdges::fourSheets, act);
    // There is no such sheet, whether others are missing or not.
    Due.beyond(call + " where all are missing", Due::eight, act, -1, 4);
  }

  private static void missing(String call, Due.Call act) {
    for (int s = 0; s <= 3; s++) {
      int one = s;
      Due.refused(call + "(" + s + ") at first", Due.MISSING, Due::eight, x -> act.of(x, one));
      Due.refused(call + "(" + s + ") of one that was there", Due.MISSING, () -> without(one),
          x -> act.of(x, one));
    }
  }

  private static TwinLights without(int s) {
    TwinLights x = fourSheets();
    x.sheet(s, 0, 0);
    return x;
  }

  private static void lagsFrom0To23() {
    // Light on this tick by one bit of the past: LAG 1 by bit 0, LAG 23 by bit 22, LAG 0 by none.
    TwinLights x = Due.told("pattern 0");
    Due.sheet(x, 0, 1);
    Due.is("lags() in the dark", x.lags(0), 0);
    for (int lag = 1; lag <= 23; lag++) {
      x.set(3, 1 << (lag - 1));
      Due.is("lags() by bit " + (lag - 1), x.lags(0), 1 << lag);
    }
    x.set(3, 1 << 23);
    Due.is("lags() by bit 23, which is lost", x.lags(0), 0);
    x.set(0, 1);
    Due.is("lags() by this tick's bit", x.lags(0), 1);
    x.set(3, ALL_LAGS);
    Due.is("lags() by all bits", x.lags(0), ALL_LAGS);
    Due.is("light(1), which is as it was", x.light(1), 4);
  }

  /** Any but the last of so many numbers. */
  private static void tellsAtLast(TwinLights x, int s, int numbers, int last) {
    int[] row = new int[numbers];
    for (int i = 0; i < numbers; i++) {
      row[i] = i == numbers - 1 ? last : -1;
    }
    Due.sheet(x, s, row);
  }

  private static void lagsFromThisTickOn() {
    TwinLights x = Due.told("pattern 1");
    Due.sheet(x, 0, 1);
    Due.is("lags() of light on this tick", x.lags(0), 1);
    Due.sheet(x, 0, -1, 1);
    Due.is("lags() of light on the next", x.lags(0), 1 << 1);
    tellsAtLast(x, 0, 24, 1);
    Due.is("lags() of light on tick 23", x.lags(0), 1 << 23 | 1 << 11);
    // 39 ticks from here the light of ticks 36 and 24 is answered.
    tellsAtLast(x, 0, 40, 1);
    Due.is("lags() of light on tick 39", x.lags(0), 1 << 3 | 1 << 15);
    tellsAtLast(x, 0, 40, 0);
    Due.is("lags() of dark on tick 39", x.lags(0), ALL_LAGS - (1 << 3 | 1 << 15));
    x.sheet(0, 8, 0);
    Due.is("lags() of no number", x.lags(0), ALL_LAGS);
    x.sheet(0, 8, 40);
    Due.is("lags() of 40 dark ones", x.lags(0), 0);
    x.set(0, 0);
    Due.is("lags() of 40 dark ones in the dark", x.lags(0), ALL_LAGS);
    x.go(7);
    x.set(3, 0b10);
    Due.sheet(x, 0, 1);
    Due.is("lags() of light on this tick, by the past", x.lags(0), 1 << 2);
  }

  private static void lagsByNumbers() {
    for (int bits : new int[] {8, 16, 32}) {
      TwinLights x = Due.told("pattern 1");
      x.sheet(0, bits, 1);
      int[][] rows = {{1, 1}, {0, ALL_LAGS - 1}, {-1, ALL_LAGS}, {2, 0}, {-2, 0}, {127, 0},
          {-128, 0}};
      for (int[] row : rows) {
        x.write(0, 0, row[0]);
        Due.is("lags() of " + row[0] + " in " + bits + " bits", x.lags(0), row[1]);
      }
      x.write(0, 0, 255);
      Due.is("lags() of 255 in " + bits + " bits", x.lags(0), bits == 8 ? ALL_LAGS : 0);
      x.write(0, 0, 65535);
      Due.is("lags() of 65535 in " + bits + " bits", x.lags(0), bits == 32 ? 0 : ALL_LAGS);
    }
    // With the book closed the lag is nothing to THE SECOND: all do, or none.
    TwinLights y = Due.told("pattern 1;book 0");
    Due.sheet(y, 0, 1, 0);
    Due.is("lags() with the book closed", y.lags(0), ALL_LAGS);
    Due.sheet(y, 0, 1, 1);
    Due.is("lags() against a closed book", y.lags(0), 0);
  }

  private static void patternsFrom0To4095() {
    TwinLights x = Due.told("lag 0");
    x.sheet(0, 8, 0);
    Due.is("fits() of no number", x.fits(0), ALL_PATTERNS);
    int[] row = new int[12];
    for (int numbers = 1; numbers <= 12; numbers++) {
      tellsAtLast(x, 0, numbers, 1);
      Due.is("fits() of one number", x.fits(0), 2048);
      Due.sheet(x, 0, java.util.Arrays.copyOf(row, numbers));
      Due.is("fits() of " + numbers + " dark ones", x.fits(0), ALL_PATTERNS >> numbers);
    }
    Due.sheet(x, 0, 0, 0, 0, 0, 0, 0, 0, 0, 0, 0, 0, 0, 0);
    Due.is("fits() of 13 dark ones", x.fits(0), 1);
    x.write(0, 12, 1);
    Due.is("fits() of one bit that would be both", x.fits(0), 0);
    x.write(0, 0, 1);
    Due.is("fits() of one bit told twice", x.fits(0), 1);
    x.write(0, 0, -1);
    Due.is("fits() of one bit told later", x.fits(0), 1);
  }

  private static void patternsFromThisTickOn() {
    // LAG 4: four ticks are answered by the past, whatever the pattern is.
    TwinLights x = Due.told("pattern 0");
    x.set(3, 0b1010);
    Due.sheet(x, 0, 1, 0, 1, 0);
    Due.is("fits() by the past", x.fits(0), ALL_PATTERNS);
    for (int i = 0; i < 4; i++) {
      x.write(0, i, i % 2);
      Due.is("fits() against the past at " + i, x.fits(0), 0);
      x.write(0, i, 1 - i % 2);
    }
    // Against the past first, and as it is later: it stays refused.
    Due.sheet(x, 0, 0, 0, 1, 0);
    Due.is("fits() against the past at first", x.fits(0), 0);
    Due.sheet(x, 0, 0, 1, 1, 0);
    Due.is("fits() against the past twice", x.fits(0), 0);
    Due.sheet(x, 0, 1, 0, 1, 0, 1);
    Due.is("fits() of the first tick behind the past", x.fits(0), 2048);
    Due.is("pattern() of it", x.pattern(0), 1);
    // With LAG 23 the past answers 23 ticks, by bits 22 to 0, and the pattern from then on.
    x.set(1, 23);
    x.set(3, 1);
    tellsAtLast(x, 0, 23, 1);
    Due.is("fits() on tick 22", x.fits(0), ALL_PATTERNS);
    tellsAtLast(x, 0, 24, 1);
    Due.is("fits() on tick 23", x.fits(0), 2048);
    tellsAtLast(x, 0, 40, 1);
    Due.is("fits() on tick 39", x.fits(0), 2048);
    Due.is("pattern() of it: tick 16 is bit 4", x.pattern(0), 16);
    x.go(9);
    x.set(2, 0);
    Due.is("pattern() 39 from tick 9, with the book closed", x.pattern(0), 1);
    for (int v : new int[] {2, -2, 127, -128}) {
      Due.sheet(x, 0, v);
      Due.is("fits() of " + v, x.fits(0), 0);
    }
    // No light shows 2, and what comes behind it can't mend that.
    Due.sheet(x, 0, 2, -1, 0);
    Due.is("fits() of 2 and others", x.fits(0), 0);
  }

  private static void leastPattern() {
    TwinLights x = Due.told("pattern 77;lag 0");
    x.sheet(0, 8, 0);
    Due.is("pattern() of no number", x.pattern(0), 0);
    x.sheet(0, 8, 40);
    Due.is("pattern() of dark ones", x.pattern(0), 0);
    Due.sheet(x, 0, 1, 1, 1, 1, 1, 1, 1, 1, 1, 1, 1, 1);
    Due.is("pattern() of twelve lights", x.pattern(0), 4095);
    for (int bit = 0; bit < 12; bit++) {
      tellsAtLast(x, 0, bit + 1, 1);
      Due.is("pattern() of light on " + bit, x.pattern(0), 1 << bit);
    }
    tellsAtLast(x, 0, 13, 1);
    Due.is("pattern() of light on 12", x.pattern(0), 1);
    Due.is("light(0), which is as it was", x.light(0), 77);
  }

  private static TwinLights toldOf(int... numbers) {
    TwinLights x = Due.told("pattern 0;lag 1");
    Due.sheet(x, 0, numbers);
    return x;
  }

  private static void noPattern() {
    Due.refused("pattern() against the past", Due.NONE, () -> toldOf(1), x -> x.pattern(0));
    Due.refused("pattern() of what no light shows", Due.NONE, () -> toldOf(-1, 2),
        x -> x.pattern(0));
    Due.refused("pattern() of a bit that would be both", Due.NONE,
        () -> toldOf(-1, 1, -1, -1, -1, -1, -1, -1, -1, -1, -1, -1, -1, 0), x -> x.pattern(0));
    Due.is("pattern() by the past", toldOf(0).pattern(0), 0);
    Due.is("fits() where there is none", toldOf(1).fits(0), 0);
  }

  private static void kindsFrom0To6() {
    TwinLights x = Due.told("pattern 0;ship at 4 speed 2");
    x.sheet(0, 8, 0);
    Due.is("kinds() of no number", x.kinds(0, 0), ALL_KINDS);
    // Row: the cell behind a tick, and the kinds that are there.
    int[][] rows = {{4, 1 << 5}, {5, 1 << 1}, {6, 1 << 6 | 1}, {7, 1 << 3 | 1 << 2}, {9, 1 << 4},
        {3, 0}, {8, 0}};
    for (int[] row : rows) {
      Due.sheet(x, 0, 4, row[0]);
      Due.is("kinds() of one at " + row[0], x.kinds(0, 0), row[1]);
    }
    Due.is("of(0, 0), which is as it was", x.of(0, 0), 0);
    TwinLights eight = Due.told("ship;ship;ship;ship;ship;ship;ship;ship at 3");
    Due.sheet(eight, 0, 3);
    Due.is("kinds() of the last ship", eight.kinds(0, 7), ALL_KINDS);
    Due.is("kinds() of another", eight.kinds(0, 6), 0);
  }

  private static void kindsFromNowOn() {
    TwinLights x = threeShips();
    Due.sheet(x, 0, 9);
    Due.is("kinds() by its cell now", x.kinds(0, 0), ALL_KINDS);
    for (int other : new int[] {8, 10}) {
      Due.sheet(x, 0, other);
      Due.is("kinds() by another cell now", x.kinds(0, 0), 0);
    }
    for (int numbers : new int[] {2, 3, 40}) {
      for (int cell = 0; cell <= 23; cell++) {
        int due = 0;
        for (int kind = 0; kind <= 6; kind++) {
          x.change(0, 0, kind);
          due |= x.ahead(0, 1, numbers - 1) == cell ? 1 << kind : 0;
        }
        tellsAtLast(x, 0, numbers, cell);
        Due.is("kinds() of one at " + cell + " behind " + (numbers - 1), x.kinds(0, 0), due);
        x = threeShips();
      }
    }
    x.sheet(0, 8, 40);
    Due.is("kinds() of 40 times 0, in port", x.kinds(0, 1), ALL_KINDS);
    Due.is("kinds() of 40 times 0, elsewhere", x.kinds(0, 2), 0);
    tellsAtLast(x, 0, 40, 23);
    Due.is("kinds() of 23 at last, in port", x.kinds(0, 2), ALL_KINDS);
  }

  private static TwinLights threeShips() {
    return Due.told("pattern 1235;lag 2;ship at 9 back speed 2;ship at 0 port;ship at 23 port");
  }

  private static void kindsByNumbers() {
    TwinLights x = Due.told("pattern 0;ship at 4;ship at 0");
    Due.sheet(x, 0, -1);
    Due.is("kinds() by any", x.kinds(0, 0), ALL_KINDS);
    tellsAtLast(x, 0, 40, -1);
    Due.is("kinds() by any, 40 times", x.kinds(0, 0), ALL_KINDS);
    for (int v : new int[] {-2, 24, 127, -128}) {
      Due.sheet(x, 0, v);
      Due.is("kinds() by " + v, x.kinds(0, 0), 0);
      Due.sheet(x, 0, -1, v);
      Due.is("kinds() by any and " + v, x.kinds(0, 0), 0);
    }
    // 260 is 4 in 8 bits, 65540 is 4 in 8 bits and in 16.
    int[][] rows = {{8, 260, ALL_KINDS}, {16, 260, 0}, {16, 65540, ALL_KINDS}, {32, 65540, 0},
        {8, 255, ALL_KINDS}, {16, 255, 0}, {16, 65535, ALL_KINDS}, {32, 65535, 0}};
    for (int[] row : rows) {
      Due.sheet(x, 0, row[0], new int[] {row[1]});
      Due.is("kinds() by " + row[1] + " in " + row[0] + " bits", x.kinds(0, 0), row[2]);
    }
  }

  private static void kindsMissing() {
    missing("kinds, 0", (x, v) -> x.kinds(v, 0));
    // A missing sheet is told before a ship that isn't there.
    missing("kinds, no ship", (x, v) -> x.kinds(v, 8));
  }

  private static void kindsOfNoShip() {
    Due.range("kinds(1, ..) of eight", 0, 7, SeenEdges::fourSheets, (x, v) -> x.kinds(1, v));
    Due.range("kinds(0, ..) of one, no number", 0, 0, () -> toldOfOne(0),
        (x, v) -> x.kinds(0, v));
    Due.beyond("kinds(0, ..) of no ships", () -> toldOf(-1), (x, v) -> x.kinds(0, v), -1, 0, 1);
  }

  private static TwinLights toldOfOne(int numbers) {
    TwinLights x = Due.told("ship");
    x.sheet(0, 8, numbers);
    return x;
  }
}
