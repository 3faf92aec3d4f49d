/** The edges that the terms name of a tick, step by step, and of the draws. */
final class TickTermsEdges {
  private static final int ALL_PAST = 16777215;

  private TickTermsEdges() {}

  static void all() {
    Words.of(Words.TERMS,
        "2. A TICK goes by: (1) THE FIRST shows its bit; THE PAST is twice what it was and "
            + "that bit (bits above 23 are lost).",
        TickTermsEdges::pastGoesOn);
    Words.of(Words.TERMS, "(2) SHIPS that aren't in PORT by numbers:",
        TickTermsEdges::noneInPort);
    Words.of(Words.TERMS, "if one SEES THE FIRST alone, its WAY is 1; THE SECOND alone, 0; both or"
        + " neither: as it is;", TickTermsEdges::waysByLights);
    Words.of(Words.TERMS, "SAW is more by how many it SEES (9999 at most);",
        TickTermsEdges::sawAtItsMost);
    Words.of(Words.TERMS,
        "then it goes as many CELLS as it GOES on its WAY, but no farther than to 0 or 23,",
        TickTermsEdges::noFartherThanTheEnds);
    Words.of(Words.TERMS, "unless it SEES both (then it stays);", TickTermsEdges::staysSeeingBoth);
    Words.of(Words.TERMS, "if it doesn't SEE both, GOES above 0 and is AT 0 or 23 then:",
        TickTermsEdges::strandsWhen);
    Words.of(Words.TERMS,
        "STRANDED is 1 more (9999 at most), it is AT CELL 11, its WAY is the other one.",
        TickTermsEdges::strandedAtItsMost);
    Words.of(Words.TERMS, "TICK is one more (99999 at most).", TickTermsEdges::tickIsOneMore);
    Words.of(Words.TERMS, "DRAWS: z is told (1 at first);", TickTermsEdges::firstZ);
    Words.of(Words.TERMS, "each makes it z * 1103515245 + 12345 (an int),",
        TickTermsEdges::drawsWrapRound);
    Words.of(Words.TERMS, "and gives z >>> 8.", TickTermsEdges::drawsAreNeverNegative);
  }

  private static void pastGoesOn() {
    int[][] rows = {
      {0, 0, 0}, {0, 1, 1}, {1, 0, 2}, {1, 1, 3}, {8388608, 0, 0}, {8388608, 1, 1},
      {8388607, 0, ALL_PAST - 1}, {8388607, 1, ALL_PAST}, {ALL_PAST, 0, ALL_PAST - 1},
      {ALL_PAST, 1, ALL_PAST},
    };
    for (int[] row : rows) {
      TwinLights x = new TwinLights();
      x.set(3, row[0]);
      x.set(0, row[1]);
      x.go(1);
      Due.is("light(3) behind " + row[0] + " and " + row[1], x.light(3), row[2]);
    }
    // The past has gone on before the ships look: with LAG 0 both lights are shown at once.
    TwinLights y = Due.told("pattern 1;lag 0;ship at 5");
    y.go(1);
    Due.ship("a tick of both", y, 0, 5, 1, 0, 2);
  }

  private static void noneInPort() {
    TwinLights x = Due.told("book 0;ship at 22 port;ship at 0 back port;liner at 23 port;"
        + "ghost at 1 back port;ship at 22");
    x.set(0, 0b10101010);
    x.go(2);
    Due.ship("a tick in port", x, 0, 22, 1, 0, 0);
    Due.ship("a tick in port", x, 1, 0, 0, 0, 0);
    Due.ship("a tick in port", x, 2, 23, 1, 0, 0);
    Due.ship("a tick in port", x, 3, 1, 0, 0, 0);
    Due.ship("a tick at sea", x, 4, 11, 0, 1, 2);
    TwinLights none = new TwinLights();
    Due.is("go(60) of no ships", none.go(60), 0);
    Due.is("now(2) of no ships", none.now(2), 0);
    TwinLights eight = Due.told("pattern 0;ship at 0;ship at 1;ship at 2;ship at 3;ship at 4;"
        + "ship at 5;ship at 6;ship at 7");
    eight.go(1);
    Due.each("a tick of eight", eight, 1, 1, 2, 3, 4, 5, 6, 7, 8);
  }

  /** A tick on which these lights are shown, for a SHIP at 11 of SPEED 1. */
  private static TwinLights behind(int lights, int way) {
    TwinLights x = Due.told("ship");
    x.change(0, 2, way);
    x.set(0, lights & 1);
    x.set(1, 1);
    x.set(3, lights >> 1);
    x.go(1);
    return x;
  }

  private static void waysByLights() {
    for (int way = 0; way <= 1; way++) {
      Due.ship("neither, WAY " + way, behind(0, way), 0, way == 1 ? 12 : 10, way, 0, 0);
      Due.ship("the first, WAY " + way, behind(1, way), 0, 12, 1, 0, 1);
      Due.ship("the second, WAY " + way, behind(2, way), 0, 10, 0, 0, 1);
      Due.ship("both, WAY " + way, behind(3, way), 0, 11, way, 0, 2);
    }
  }

  private static void sawAtItsMost() {
    int[][] rows = {
      {0, 0, 0}, {9999, 0, 9999}, {0, 1, 1}, {9997, 1, 9998}, {9998, 1, 9999}, {9999, 1, 9999},
      {0, 3, 2}, {9996, 3, 9998}, {9997, 3, 9999}, {9998, 3, 9999}, {9999, 3, 9999},
      {9998, 2, 9999}, {9999, 2, 9999},
    };
    for (int[] row : rows) {
      TwinLights x = Due.told("ship");
      x.change(0, 6, row[0]);
      x.set(0, row[1] & 1);
      x.set(1, 1);
      x.set(3, row[1] >> 1);
      Due.is("ahead(0, 6, 1) of " + row[0] + ", lights " + row[1], x.ahead(0, 6, 1), row[2]);
      x.go(1);
      Due.is("of(0, 6) behind " + row[0] + ", lights " + row[1], x.of(0, 6), row[2]);
    }
  }

  /** Row: from where, WAY, SPEED; then where it is and how often it has stranded. */
  private static void sailsInTheDark(int kind, int[]... rows) {
    for (int[] row : rows) {
      TwinLights x = Due.told("pattern 0");
      x.ship(kind, row[0]);
      x.change(0, 2, row[1]);
      x.change(0, 3, row[2]);
      x.go(1);
      Due.ship("kind " + kind + " from " + row[0] + ", WAY " + row[1] + ", SPEED " + row[2], x, 0,
          row[3], row[4] == 1 ? 1 - row[1] : row[1], row[4], 0);
    }
  }

  private static void noFartherThanTheEnds() {
    // Short of the end, to it, and what would be past it.
    sailsInTheDark(0, new int[][] {
      {17, 1, 5, 22, 0}, {18, 1, 5, 11, 1}, {19, 1, 5, 11, 1}, {22, 1, 5, 11, 1}, {23, 1, 5, 11, 1},
      {6, 0, 5, 1, 0}, {5, 0, 5, 11, 1}, {4, 0, 5, 11, 1}, {1, 0, 5, 11, 1}, {0, 0, 5, 11, 1},
      {21, 1, 1, 22, 0}, {22, 1, 1, 11, 1}, {2, 0, 1, 1, 0}, {1, 0, 1, 11, 1},
    });
    // A RACER goes 8 at the most.
    sailsInTheDark(4, new int[][] {
      {14, 1, 5, 22, 0}, {15, 1, 5, 11, 1}, {16, 1, 5, 11, 1}, {9, 0, 5, 1, 0}, {8, 0, 5, 11, 1},
      {7, 0, 5, 11, 1},
    });
  }

  private static void staysSeeingBoth() {
    for (int cell : new int[] {0, 1, 11, 22, 23}) {
      for (int way = 0; way <= 1; way++) {
        TwinLights x = Due.told("book 0;pattern 1;ship speed 5");
        x.change(0, 1, cell);
        x.change(0, 2, way);
        x.go(1);
        Due.ship("both seen at " + cell + ", WAY " + way, x, 0, cell, way, 0, 2);
      }
    }
  }

  private static void strandsWhen() {
    // It doesn't go: it may lie at the end.
    sailsInTheDark(0, new int[][] {{0, 0, 0, 0, 0}, {0, 1, 0, 0, 0}, {23, 1, 0, 23, 0},
        {23, 0, 0, 23, 0}});
    sailsInTheDark(1, new int[][] {{0, 0, 0, 0, 0}, {23, 1, 0, 23, 0}, {23, 1, 1, 11, 1}});
    sailsInTheDark(6, new int[][] {{0, 0, 0, 0, 0}, {23, 1, 0, 23, 0}, {21, 1, 1, 11, 1},
        {20, 1, 1, 22, 0}});
    // It goes, without SPEED.
    sailsInTheDark(2, new int[][] {{23, 1, 0, 11, 1}, {22, 1, 0, 11, 1}, {21, 1, 0, 22, 0},
        {1, 0, 0, 11, 1}});
    // It goes away from the end, and isn't there then.
    sailsInTheDark(0, new int[][] {{0, 1, 1, 1, 0}, {23, 0, 1, 22, 0}, {0, 1, 5, 5, 0}});
    // A YACHT without SPEED goes on even ticks alone.
    TwinLights x = Due.told("pattern 0;yacht at 23 speed 0 port");
    x.go(1);
    x.change(0, 4, 0);
    x.go(1);
    Due.ship("a YACHT on tick 1", x, 0, 23, 1, 0, 0);
    x.go(1);
    Due.ship("a YACHT on tick 2", x, 0, 11, 0, 1, 0);
    // It sees both.
    TwinLights y = Due.told("book 0;pattern 1;ship at 23 speed 5;ship at 0 back");
    Due.is("go(1) of two that see both", y.go(1), 0);
    Due.is("go(1) of two that see neither", y.go(1), 2);
    // It sees one, and is there all the same: away from 0 by THE FIRST, to it by THE SECOND.
    TwinLights z = Due.told("lag 1;pattern 1;ship at 22;ship at 0 back;ship at 1");
    Due.is("go(1) of three that see the first", z.go(1), 1);
    Due.ship("the first seen at 22", z, 0, 11, 0, 1, 1);
    Due.ship("the first seen at 0", z, 1, 1, 1, 0, 1);
    Due.is("go(1) of three that see the second", z.go(1), 2);
    Due.ship("the second seen at 1", z, 1, 11, 1, 1, 2);
  }

  private static void strandedAtItsMost() {
    for (int way = 0; way <= 1; way++) {
      int[][] rows = {{0, 1}, {9997, 9998}, {9998, 9999}, {9999, 9999}};
      for (int[] row : rows) {
        TwinLights x = Due.told("pattern 0;ship");
        x.change(0, 2, way);
        x.change(0, 1, way == 1 ? 22 : 1);
        x.change(0, 5, row[0]);
        Due.is("ahead(0, 5, 1) of " + row[0], x.ahead(0, 5, 1), row[1]);
        Due.is("go(1) of " + row[0], x.go(1), row[1]);
        Due.ship("one that stranded " + row[0] + " times", x, 0, 11, 1 - way, row[1], 0);
      }
    }
  }

  /** 99999 is behind all 512 calls that are promised: LastTickTest has it. */
  private static void tickIsOneMore() {
    TwinLights x = new TwinLights();
    Due.is("count(0)", x.count(0), 0);
    x.go(1);
    Due.is("count(0)", x.count(0), 1);
    x.go(60);
    Due.is("count(0)", x.count(0), 61);
    x.nights(20);
    Due.is("count(0)", x.count(0), 81);
  }

  private static void firstZ() {
    Due.is("count(6)", new TwinLights().count(6), 1);
    Due.is("seed(5)", new TwinLights().seed(5), 1);
  }

  /** z behind the two draws of a night, by long arithmetic. */
  private static void drawsWrapRound() {
    for (int z : new int[] {1, 0, -1, 2, Due.GREATEST_INT, Due.LEAST_INT, 1103515245, -77}) {
      TwinLights x = new TwinLights();
      x.seed(z);
      x.nights(1);
      long once = (z * 1103515245L + 12345) & 0xffffffffL;
      long twice = (once * 1103515245L + 12345) & 0xffffffffL;
      Due.is("count(6) behind " + z, x.count(6) & 0xffffffffL, twice);
    }
    TwinLights y = new TwinLights();
    y.nights(1);
    Due.is("count(6) behind two draws from 1", y.count(6), -1770082073);
    y.seed(0);
    y.nights(1);
    Due.is("count(6) behind two draws from 0", y.count(6), -740551042);
  }

  /** The bit that is turned, and the ship that is quicker, by draws of which z is below 0. */
  private static void drawsAreNeverNegative() {
    int negative = 0;
    for (int z = 1; z <= 40; z++) {
      TwinLights x = Due.eight();
      for (int ship = 0; ship < 8; ship++) {
        x.change(ship, 4, 1);
      }
      x.set(0, 0);
      x.seed(z);
      x.nights(1);
      long once = (z * 1103515245L + 12345) & 0xffffffffL;
      long twice = (once * 1103515245L + 12345) & 0xffffffffL;
      negative += once >= 0x80000000L ? 1 : 0;
      negative += twice >= 0x80000000L ? 1 : 0;
      Due.is("light(0) behind " + z, x.light(0), 1 << (int) (once / 256 % 12));
      for (int ship = 0; ship < 8; ship++) {
        Due.is("SPEED of " + ship + " behind " + z, x.of(ship, 3),
            twice / 256 % 8 == ship ? 2 : 1);
      }
    }
    Due.is("draws below 0 were among them", negative > 10 ? 1 : 0, 1);
  }
}
