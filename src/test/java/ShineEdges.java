/** The edges of promises 16 to 21: lagFor, patternFor, kindFor, start, speedFor, keepIn. */
final class ShineEdges {
  private static final int MOST = 9999;

  private ShineEdges() {}

  static void all() {
    Words.of(16, "The LAG with which STRANDED of all together is least", ShineEdges::lagOfAll);
    Words.of(16, "behind n (0 to 60) TICKS.", ShineEdges::lagFrom0To60);
    Words.of(16, "BEYOND.", () -> Due.range("lagFor", 0, 60, Due::eight, (x, v) -> x.lagFor(v)));
    Words.of(17, "The PATTERN (0 to 4095) with which STRANDED of all together is least",
        ShineEdges::patternFrom0To4095);
    Words.of(17, "behind n (0 to 12) TICKS.", ShineEdges::patternFrom0To12);
    Words.of(17, "BEYOND.",
        () -> Due.range("patternFor", 0, 12, Due::eight, (x, v) -> x.patternFor(v)));
    Words.of(18, "The KIND of which a SHIP must be, so that its STRANDED is least",
        ShineEdges::kindOfOne);
    Words.of(18, "behind n (0 to 60) TICKS.", ShineEdges::kindFrom0To60);
    Words.of(18, "BEYOND.", () -> shipAndTicks("kindFor", TwinLights::kindFor));
    Words.of(19, "The CELL AT which it must be now for that.", ShineEdges::startAtCell);
    Words.of(19, "BEYOND.", () -> shipAndTicks("start", TwinLights::start));
    Words.of(20, "The greatest SPEED with which its STRANDED is as now", ShineEdges::greatestSpeed);
    Words.of(20, "behind n (0 to 60) TICKS.", ShineEdges::speedFrom0To60);
    Words.of(20, "BEYOND.", () -> shipAndTicks("speedFor", TwinLights::speedFor));
    Words.of(20, "NONE.", ShineEdges::noSpeed);
    Words.of(21, "The set of fewest SHIPS", ShineEdges::fewestToKeep);
    Words.of(21, "such that, if these are in PORT from now on, too,", ShineEdges::keptInToo);
    Words.of(21, "STRANDED of all together is no more than v (0 to 9999)", ShineEdges::noMoreThanV);
    Words.of(21, "behind n (0 to 20) TICKS;", ShineEdges::keepFrom0To20);
    Words.of(21, "of several the least.", ShineEdges::leastToKeep);
    Words.of(21, "BEYOND.", ShineEdges::keepBeyond);
    Words.of(21, "NONE.", ShineEdges::noneToKeep);
  }

  private interface Asked {
    int of(TwinLights x, int ship, int n);
  }

  private static void shipAndTicks(String call, Asked asked) {
    Due.range(call + "(.., 0) of eight", 0, 7, Due::eight, (x, v) -> asked.of(x, v, 0));
    Due.range(call + "(.., 60) of one", 0, 0, () -> Due.told("ship"), (x, v) -> asked.of(x, v, 60));
    Due.beyond(call + "(.., 0) of none", TwinLights::new, (x, v) -> asked.of(x, v, 0), -1, 0);
    Due.range(call + "(7, ..)", 0, 60, Due::eight, (x, v) -> asked.of(x, 7, v));
  }

  /** Eight ships that have stranded as often as can be, and change nothing of what is least. */
  private static TwinLights fullSea(int atTheirMost) {
    TwinLights x = new TwinLights();
    for (int ship = 0; ship < 8; ship++) {
      x.ship(0, 22);
      if (ship < atTheirMost) {
        x.change(ship, 5, MOST);
      }
    }
    return x;
  }

  /** The others are one short of it: with seven at their most all together may become 79992. */
  private static TwinLights almostFullSea(int atTheirMost) {
    TwinLights x = fullSea(atTheirMost);
    for (int ship = atTheirMost; ship < 8; ship++) {
      x.change(ship, 5, MOST - 1);
    }
    return x;
  }

  private static void lagOfAll() {
    for (int atTheirMost = 0; atTheirMost <= 8; atTheirMost++) {
      lagOf(fullSea(atTheirMost), atTheirMost);
      lagOf(almostFullSea(atTheirMost), atTheirMost);
    }
  }

  private static void lagOf(TwinLights x, int atTheirMost) {
    // THE FIRST is dark; bit 5 turns the ships at 22 back on this tick with LAG 6, bit 22 with 23.
    x.set(0, 0);
    x.set(3, 1 << 5 | 1 << 22);
    Due.is("lagFor(1), " + atTheirMost + " at their most", x.lagFor(1),
        atTheirMost == 8 ? 0 : 6);
    x.set(3, 1 << 22);
    Due.is("lagFor(1), the greatest LAG", x.lagFor(1), atTheirMost == 8 ? 0 : 23);
    x.set(3, 1 << 23);
    Due.is("lagFor(1), a bit that no LAG shows", x.lagFor(1), 0);
    x.set(0, 4095);
    x.set(3, 0);
    Due.is("lagFor(1), the least LAG", x.lagFor(1), 0);
  }

  private static void lagFrom0To60() {
    for (int n : new int[] {0, 1, 59, 60}) {
      Due.is("lagFor(" + n + ")", littleLight().lagFor(n), lagByTrying(n));
    }
    Due.is("lagFor(0)", littleLight().lagFor(0), 0);
    Due.is("lagFor(59)", littleLight().lagFor(59), 5);
    Due.is("lagFor(60)", littleLight().lagFor(60), 6);
  }

  private static TwinLights littleLight() {
    return Due.told("pattern 5;ship at 10");
  }

  private static int lagByTrying(int n) {
    int best = 0;
    int fewest = Due.GREATEST_INT;
    for (int lag = 0; lag <= 23; lag++) {
      TwinLights x = littleLight();
      x.set(1, lag);
      int stranded = n == 0 ? x.now(1) : x.go(n);
      if (stranded < fewest) {
        fewest = stranded;
        best = lag;
      }
    }
    return best;
  }

  private static void patternFrom0To4095() {
    for (int atTheirMost = 0; atTheirMost <= 8; atTheirMost++) {
      patternOf(fullSea(atTheirMost), atTheirMost);
      patternOf(almostFullSea(atTheirMost), atTheirMost);
    }
    // A GHOST there stays as long as it is dark.
    TwinLights dark = Due.told("book 0;pattern 4095;ghost at 22");
    for (int n : new int[] {0, 1, 11, 12}) {
      Due.is("patternFor(" + n + ") of a GHOST", dark.patternFor(n), 0);
    }
    // From tick 11 on the last bit is the first, and bit 0 comes next.
    TwinLights y = Due.told("book 0;ship at 22 port");
    y.go(11);
    y.change(0, 4, 0);
    Due.is("patternFor(1) on tick 11", y.patternFor(1), 2048);
    Due.is("patternFor(2) on tick 11", y.patternFor(2), 2049);
    Due.is("patternFor(12) on tick 11", y.patternFor(12), 4095);
  }

  private static void patternOf(TwinLights x, int atTheirMost) {
    // With the book closed a ship at 22 stays there as long as there is light.
    x.set(2, 0);
    Due.is("patternFor(12), all twelve", x.patternFor(12), atTheirMost == 8 ? 0 : 4095);
    Due.is("patternFor(11), all but the last", x.patternFor(11), atTheirMost == 8 ? 0 : 2047);
    Due.is("patternFor(1), the first alone", x.patternFor(1), atTheirMost == 8 ? 0 : 1);
    Due.is("patternFor(0), none", x.patternFor(0), 0);
  }

  private static void patternFrom0To12() {
    // In the dark a ship at 11 strands on tick 11; light on tick 0 is answered in time.
    TwinLights x = Due.told("pattern 4095;ship at 11");
    Due.is("patternFor(0)", x.patternFor(0), 0);
    Due.is("patternFor(11)", x.patternFor(11), 0);
    Due.is("patternFor(12)", x.patternFor(12), 1);
  }

  private static void kindOfOne() {
    TwinLights x = fullSea(7);
    x.set(0, 0);
    // In the dark a SHIP strands here; a TUG, too; a GHOST sees both and stays.
    Due.is("kindFor(7, 1)", x.kindFor(7, 1), 5);
    Due.is("kindFor(0, 1) at its most", x.kindFor(0, 1), 0);
    x.change(7, 5, MOST - 1);
    Due.is("kindFor(7, 1) short of it", x.kindFor(7, 1), 5);
    // The last kind alone: each other one strands oftener in these 16 ticks.
    TwinLights z = Due.told("pattern 10;ship at 7 speed 4");
    Due.is("kindFor(0, 0)", z.kindFor(0, 0), 0);
    Due.is("kindFor(0, 16)", z.kindFor(0, 16), 6);
    z.change(0, 0, 6);
    int fewest = z.ahead(0, 5, 16);
    for (int kind = 0; kind <= 5; kind++) {
      z.change(0, 0, kind);
      Due.is("kind " + kind + " strands oftener", z.ahead(0, 5, 16) > fewest ? 1 : 0, 1);
    }
    Due.is("kindFor(0, 60) in port", portOf(z).kindFor(0, 60), 0);
  }

  private static TwinLights portOf(TwinLights x) {
    x.change(0, 4, 1);
    return x;
  }

  private static void kindFrom0To60() {
    // Dark on ticks 11, 23, .. alone: a SHIP goes to 23 in five steps, the last on tick 59; a TUG
    // turns back wherever it sees one light.
    TwinLights x = Due.told("pattern 2047;book 0;ship at 18");
    Due.is("kindFor(0, 0)", x.kindFor(0, 0), 0);
    Due.is("kindFor(0, 59)", x.kindFor(0, 59), 0);
    Due.is("kindFor(0, 60)", x.kindFor(0, 60), 1);
    Due.is("ahead(0, 5, 60)", x.ahead(0, 5, 60), 1);
    x.change(0, 0, 1);
    Due.is("ahead(0, 5, 60) of a TUG", x.ahead(0, 5, 60), 0);
  }

  /** A GHOST that goes on ticks 11, 23, .. alone, WAY 0, two cells each time. */
  private static TwinLights slowGhost() {
    return Due.told("pattern 2048;book 0;ghost back speed 2");
  }

  private static void startAtCell() {
    TwinLights x = slowGhost();
    int[][] rows = {{0, 0}, {11, 0}, {12, 3}, {23, 3}, {24, 5}, {59, 9}, {60, 11}};
    for (int[] row : rows) {
      Due.is("start(0, " + row[0] + ")", x.start(0, row[0]), row[1]);
    }
    // In the dark, WAY 0, SPEED 1: from 23 alone it takes 23 ticks to 0.
    TwinLights y = Due.told("pattern 0;ship back");
    Due.is("start(0, 22), the greatest CELL", y.start(0, 22), 23);
    Due.is("start(0, 21)", y.start(0, 21), 22);
    // No CELL does without stranding; 12 is the least that strands once.
    Due.is("start(0, 23)", y.start(0, 23), 12);
    y.change(0, 5, MOST);
    Due.is("start(0, 22) at its most", y.start(0, 22), 0);
    y.change(0, 5, MOST - 1);
    Due.is("start(0, 22) short of it", y.start(0, 22), 23);
    Due.is("start(0, 60) in port", portOf(y).start(0, 60), 0);
  }

  private static void greatestSpeed() {
    TwinLights x = Due.told("pattern 0;ship at 11;ship at 17");
    x.change(0, 5, 7);
    int[][] rows = {{0, 5}, {1, 5}, {2, 5}, {3, 3}, {4, 2}, {5, 2}, {6, 1}, {11, 1}, {12, 0}};
    for (int[] row : rows) {
      Due.is("speedFor(0, " + row[0] + ")", x.speedFor(0, row[0]), row[1]);
    }
    Due.is("speedFor(1, 1): 22 is no end", x.speedFor(1, 1), 5);
    x.change(1, 1, 18);
    Due.is("speedFor(1, 1): 23 is one", x.speedFor(1, 1), 4);
    x.change(0, 5, MOST);
    Due.is("speedFor(0, 60) at its most", x.speedFor(0, 60), 5);
    x.change(0, 5, MOST - 1);
    Due.is("speedFor(0, 60) short of it", x.speedFor(0, 60), 0);
    Due.is("speedFor(0, 60) in port", portOf(x).speedFor(0, 60), 5);
    // A YACHT of SPEED 1 sees both lights on odd ticks, too, and stays.
    TwinLights y = Due.told("book 0;pattern 4095;yacht at 22 speed 5");
    Due.is("speedFor(0, 1)", y.speedFor(0, 1), 5);
    Due.is("speedFor(0, 2)", y.speedFor(0, 2), 1);
    Due.is("speedFor(0, 60)", y.speedFor(0, 60), 1);
  }

  private static void speedFrom0To60() {
    // Five steps in 60 ticks, four in 59.
    TwinLights x = Due.told("pattern 2048;book 0;ghost at 13");
    int[][] rows = {{0, 5}, {11, 5}, {12, 5}, {24, 4}, {59, 2}, {60, 1}};
    for (int[] row : rows) {
      Due.is("speedFor(0, " + row[0] + ")", x.speedFor(0, row[0]), row[1]);
    }
  }

  private static void noSpeed() {
    // Without SPEED a LINER goes 1 all the same.
    Due.refused("speedFor(0, 1)", Due.NONE, () -> Due.told("pattern 0;liner at 22"),
        x -> x.speedFor(0, 1));
    Due.is("speedFor(0, 1) of one at 21", Due.told("pattern 0;liner at 21").speedFor(0, 1), 0);
    Due.is("speedFor(0, 0) of one at 22", Due.told("pattern 0;liner at 22").speedFor(0, 0), 5);
  }

  private static void fewestToKeep() {
    TwinLights none = new TwinLights();
    Due.is("keepIn(0, 20) of none", none.keepIn(0, 20), 0);
    // On this tick each of eight strands.
    TwinLights x = fullSea(0);
    x.set(0, 0);
    int[] due = {255, 127, 63, 31, 15, 7, 3, 1, 0, 0};
    for (int v = 0; v < due.length; v++) {
      Due.is("keepIn(" + v + ", 1)", x.keepIn(v, 1), due[v]);
    }
    // Both lights keep them where they are.
    x.set(0, 1);
    x.set(2, 0);
    Due.is("keepIn(0, 1) of ships that see both", x.keepIn(0, 1), 0);
    Due.is("keepIn(0, 2), dark behind it", x.keepIn(0, 2), 255);
    // In 20 ticks two strand twice and one six times: that one alone is fewer than those two.
    TwinLights y = Due.told("pattern 0;ship at 22;ship at 22;ship speed 5");
    Due.is("keepIn(6, 20): one, though the two are a lesser number", y.keepIn(6, 20), 0b100);
    Due.is("keepIn(4, 20)", y.keepIn(4, 20), 0b100);
    Due.is("keepIn(3, 20)", y.keepIn(3, 20), 0b101);
  }

  private static void keptInToo() {
    // Those in port stay there, and are not told.
    TwinLights x = Due.told("pattern 0;ship at 22 port;ship at 22;ship at 22 port;ship at 22");
    Due.is("keepIn(2, 1)", x.keepIn(2, 1), 0);
    Due.is("keepIn(1, 1)", x.keepIn(1, 1), 0b0010);
    Due.is("keepIn(0, 1)", x.keepIn(0, 1), 0b1010);
    x.change(0, 5, 4);
    Due.is("keepIn(4, 1): what has stranded counts", x.keepIn(4, 1), 0b1010);
    Due.refused("keepIn(3, 1)", Due.NONE, ShineEdges::strandedInPort, y -> y.keepIn(3, 1));
  }

  private static TwinLights strandedInPort() {
    TwinLights x = Due.told("pattern 0;ship at 22 port;ship at 22");
    x.change(0, 5, 4);
    return x;
  }

  private static void noMoreThanV() {
    TwinLights x = Due.told("pattern 0;ship at 22;ship at 5 port");
    x.change(1, 5, 9998);
    Due.is("keepIn(9999, 1): 9999 is no more", x.keepIn(9999, 1), 0);
    Due.is("keepIn(9998, 1)", x.keepIn(9998, 1), 1);
    x.change(1, 5, MOST);
    Due.is("keepIn(9999, 1) of 10000", x.keepIn(9999, 1), 1);
    Due.is("keepIn(9999, 0) of 9999", x.keepIn(9999, 0), 0);
    x.change(0, 5, MOST);
    Due.is("keepIn(9999, 0) of 19998", x.keepIn(9999, 0), Due.NONE);
    // At its most it strands no more.
    TwinLights y = Due.told("pattern 0;ship at 22");
    y.change(0, 5, MOST);
    Due.is("keepIn(9999, 20) of one at its most", y.keepIn(9999, 20), 0);
    y.change(0, 5, 0);
    Due.is("keepIn(0, 0)", y.keepIn(0, 0), 0);
    Due.is("keepIn(0, 1)", y.keepIn(0, 1), 1);
  }

  private static void keepFrom0To20() {
    // In the dark it strands on the 20th tick.
    TwinLights x = Due.told("pattern 0;ship at 3");
    Due.is("keepIn(0, 0)", x.keepIn(0, 0), 0);
    Due.is("keepIn(0, 19)", x.keepIn(0, 19), 0);
    Due.is("keepIn(0, 20)", x.keepIn(0, 20), 1);
    x.change(0, 1, 2);
    Due.is("keepIn(0, 20) of one that strands on the 21st", x.keepIn(0, 20), 0);
  }

  private static void leastToKeep() {
    TwinLights x = Due.told("pattern 0;ship at 5;ship at 22;ship at 22;ship at 22");
    Due.is("keepIn(2, 1)", x.keepIn(2, 1), 0b0010);
    Due.is("keepIn(1, 1)", x.keepIn(1, 1), 0b0110);
    Due.is("keepIn(0, 1)", x.keepIn(0, 1), 0b1110);
  }

  private static void keepBeyond() {
    Due.range("keepIn(.., 20)", 0, 9999, Due::eight, (x, v) -> x.keepIn(v, 20));
    Due.range("keepIn(9999, ..)", 0, 20, Due::eight, (x, v) -> x.keepIn(9999, v));
    Due.beyond("keepIn(.., 0) that none would help", ShineEdges::strandedInPort,
        (x, v) -> x.keepIn(v, 0), -1, 10000);
  }

  private static void noneToKeep() {
    Due.refused("keepIn(3, 0)", Due.NONE, ShineEdges::strandedInPort, x -> x.keepIn(3, 0));
    Due.refused("keepIn(3, 20)", Due.NONE, ShineEdges::strandedInPort, x -> x.keepIn(3, 20));
    Due.refused("keepIn(0, 0)", Due.NONE, ShineEdges::strandedInPort, x -> x.keepIn(0, 0));
    Due.is("keepIn(4, 0)", strandedInPort().keepIn(4, 0), 0);
  }
}
