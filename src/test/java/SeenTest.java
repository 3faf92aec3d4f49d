import java.util.Arrays;

/** Promises 22 to 25: lags, fits, pattern, kinds. */
public final class SeenTest {
  private static final int ALL_LAGS = 16777215;

  public static void main(String[] args) {
    lagsByHand();
    lagsByShowing();
    patternsByHand();
    patternsByShowing();
    kindsByHand();
    kindsBySailing();
    sheetsOfAllWidths();
    nothingChanges();
    Due.end();
  }

  private static void lagsByHand() {
    TwinLights x = Due.told("pattern 1");
    Due.sheet(x, 0, 1);
    // Tick 0 shows light; no tick before it did.
    Due.is("lags of light now", x.lags(0), 1);
    Due.sheet(x, 0, 0);
    Due.is("lags of dark now", x.lags(0), ALL_LAGS - 1);
    Due.sheet(x, 0, -1, -1, -1, 1);
    Due.is("lags of light in 3", x.lags(0), 1 << 3);
    Due.sheet(x, 0, 1, 1);
    Due.is("lags of light twice", x.lags(0), 0);
    x.set(3, 0b100010);
    Due.sheet(x, 0, 1);
    // Bit 1 of the past is answered with LAG 2 on this tick, bit 5 with LAG 6.
    Due.is("lags by the past", x.lags(0), 1 << 6 | 1 << 2 | 1);
    Due.sheet(x, 0, -1, 1);
    Due.is("lags by the past, a tick on", x.lags(0), 1 << 7 | 1 << 3 | 1 << 1);
    Due.sheet(x, 0, -1, -1);
    Due.is("lags of any", x.lags(0), ALL_LAGS);
    Due.sheet(x, 0);
    Due.is("lags of nothing", x.lags(0), ALL_LAGS);
    Due.sheet(x, 0, -1, 2);
    Due.is("lags of what no light shows", x.lags(0), 0);
    Due.sheet(x, 0, -2);
    Due.is("lags of what no light shows", x.lags(0), 0);
    x.set(2, 0);
    Due.sheet(x, 0, 1, 0, 0, -1);
    Due.is("lags with a closed book", x.lags(0), ALL_LAGS);
    Due.sheet(x, 0, 1, 1);
    Due.is("lags with a closed book", x.lags(0), 0);
  }

  /** What THE SECOND then shows is written down for each lag, and every lag compared with it. */
  private static void lagsByShowing() {
    for (int lag = 0; lag <= 23; lag++) {
      int[] seen = shown(lag);
      int due = 0;
      for (int other = 0; other <= 23; other++) {
        due |= Arrays.equals(shown(other), seen) ? 1 << other : 0;
      }
      TwinLights x = withLag(7);
      Due.sheet(x, 2, seen);
      Due.is("lags of what lag " + lag + " shows", x.lags(2), due);
      Due.is("the lag itself among them", x.lags(2) >> lag & 1, 1);
    }
  }

  private static int[] shown(int lag) {
    TwinLights x = withLag(lag);
    int[] seen = new int[40];
    for (int n = 0; n < seen.length; n++) {
      seen[n] = x.shows(1, n);
    }
    return seen;
  }

  private static TwinLights withLag(int lag) {
    TwinLights x = new TwinLights();
    x.set(0, 0b101100010111);
    x.set(3, 0b110101110000100101101001);
    x.set(1, lag);
    return x;
  }

  private static void patternsByHand() {
    TwinLights x = Due.told("lag 0");
    Due.sheet(x, 1, 1);
    Due.is("fits", x.fits(1), 2048);
    Due.is("pattern", x.pattern(1), 1);
    Due.sheet(x, 1, -1, 0, 1, -1, 1);
    Due.is("fits", x.fits(1), 512);
    Due.is("pattern", x.pattern(1), 0b10100);
    Due.sheet(x, 1, 1, -1, -1, -1, -1, -1, -1, -1, -1, -1, -1, -1, 1);
    Due.is("fits of the same bit twice", x.fits(1), 2048);
    Due.is("pattern of the same bit twice", x.pattern(1), 1);
    x.write(1, 12, 0);
    Due.is("fits of a bit that would be both", x.fits(1), 0);
    Due.is("pattern of a bit that would be both", x.pattern(1), Due.NONE);
    Due.sheet(x, 1, 1, 0, 0, 1, 0, 0, 0, 0, 0, 0, 0, 1);
    Due.is("fits of all bits", x.fits(1), 1);
    Due.is("pattern of all bits", x.pattern(1), 0b100000001001);
    Due.sheet(x, 1, 2);
    Due.is("fits of what no light shows", x.fits(1), 0);
    Due.is("pattern of what no light shows", x.pattern(1), Due.NONE);
    Due.sheet(x, 1);
    Due.is("fits of nothing", x.fits(1), 4096);
    Due.is("pattern of nothing", x.pattern(1), 0);

    // Tick 10, lag 2: two ticks are answered by the past, then ticks 10, 11, 12 = bit 0.
    TwinLights y = Due.told("pattern 0;lag 2");
    y.go(10);
    y.set(3, 0b10);
    Due.sheet(y, 0, 1, 0);
    Due.is("fits by the past", y.fits(0), 4096);
    Due.sheet(y, 0, 0);
    Due.is("fits against the past", y.fits(0), 0);
    Due.sheet(y, 0, 1, 1);
    Due.is("pattern against the past", y.pattern(0), Due.NONE);
    Due.sheet(y, 0, -1, -1, 1, 0, 1);
    Due.is("fits from tick 10 on", y.fits(0), 512);
    Due.is("pattern from tick 10 on", y.pattern(0), 0b010000000001);
    y.set(2, 0);
    Due.is("fits with a closed book", y.fits(0), 512);
    Due.is("pattern with a closed book", y.pattern(0), 0b000000000101);
  }

  private static void patternsByShowing() {
    for (int round = 0; round < 12; round++) {
      int lag = 2 * round + 1;
      int[] seen = new int[14];
      TwinLights x = shining(round, lag, 0b100110101100 ^ round * 37);
      for (int n = 0; n < seen.length; n++) {
        seen[n] = (n * 7 + round) % 3 == 0 ? -1 : x.shows(1, n);
      }
      int many = 0;
      int least = -1;
      TwinLights y = shining(round, lag, 0);
      for (int pattern = 0; pattern <= 4095; pattern++) {
        if (pattern % 25 == 0) {
          y = shining(round, lag, 0);
        }
        y.set(0, pattern);
        boolean same = true;
        for (int n = 0; n < seen.length && same; n++) {
          same = seen[n] == -1 || y.shows(1, n) == seen[n];
        }
        many += same ? 1 : 0;
        least = same && least < 0 ? pattern : least;
      }
      Due.sheet(x, 3, seen);
      Due.is("fits in round " + round, x.fits(3), many);
      Due.is("pattern in round " + round, x.pattern(3), least);
    }
  }

  private static TwinLights shining(int ticks, int lag, int pattern) {
    TwinLights x = Due.told("pattern 3021");
    if (ticks > 0) {
      x.go(ticks);
    }
    x.set(1, lag);
    x.set(0, pattern);
    return x;
  }

  private static void kindsByHand() {
    // Dark, of speed 2: on tick 0 a SHIP goes 2, a TUG 1, a LINER and a YACHT 3, a RACER 5,
    // a PILOT 2; a GHOST sees both and stays.
    TwinLights x = Due.told("pattern 0;tug at 4 speed 2");
    Due.sheet(x, 0, 4, 6);
    Due.is("kinds", x.kinds(0, 0), 1 << 0 | 1 << 6);
    Due.sheet(x, 0, 4, 5);
    Due.is("kinds", x.kinds(0, 0), 1 << 1);
    Due.sheet(x, 0, 4, 7);
    Due.is("kinds", x.kinds(0, 0), 1 << 2 | 1 << 3);
    Due.sheet(x, 0, 4, 7, 9);
    Due.is("kinds", x.kinds(0, 0), 1 << 3);
    Due.sheet(x, 0, 4, -1, 10);
    Due.is("kinds", x.kinds(0, 0), 1 << 2);
    Due.sheet(x, 0, -1, 9);
    Due.is("kinds", x.kinds(0, 0), 1 << 4);
    Due.sheet(x, 0, 4, 4);
    Due.is("kinds", x.kinds(0, 0), 1 << 5);
    Due.sheet(x, 0, 4);
    Due.is("kinds by where it is now", x.kinds(0, 0), 127);
    Due.sheet(x, 0, 5);
    Due.is("kinds by where it isn't", x.kinds(0, 0), 0);
    Due.sheet(x, 0, -1, -1, -1);
    Due.is("kinds by any", x.kinds(0, 0), 127);
    Due.sheet(x, 0);
    Due.is("kinds by nothing", x.kinds(0, 0), 127);
    Due.sheet(x, 0, -1, -2);
    Due.is("kinds by no cell", x.kinds(0, 0), 0);
    x.change(0, 4, 1);
    Due.sheet(x, 0, 4, 4, 4);
    Due.is("kinds in port", x.kinds(0, 0), 127);
  }

  private static void kindsBySailing() {
    for (int kind = 0; kind <= 6; kind++) {
      int[] cells = new int[40];
      TwinLights x = Due.told("pattern 1235;lag 2;ship at 9 port;ship at 14 back speed 2");
      x.change(1, 0, kind);
      for (int n = 0; n < cells.length; n++) {
        cells[n] = x.ahead(1, 1, n);
      }
      Due.sheet(x, 0, cells);
      x.change(1, 0, 0);
      Due.is("kinds of one that sailed as " + kind, x.kinds(0, 1), 1 << kind);
      cells[39] = 23 - cells[39];
      Due.sheet(x, 0, cells);
      Due.is("kinds of one that ended elsewhere", x.kinds(0, 1), 0);
    }
  }

  private static void sheetsOfAllWidths() {
    for (int bits : new int[] {8, 16, 32}) {
      TwinLights x = Due.told("pattern 0;ship at 4");
      x.sheet(1, bits, 2);
      x.write(1, 0, -1);
      x.write(1, 1, 1);
      Due.is("lags by " + bits + " bits", x.lags(1), 0);
      x.write(1, 1, 5);
      Due.is("kinds by " + bits + " bits", x.kinds(1, 0), 0b1000011 & ~(1 << 6));
    }
  }

  private static void nothingChanges() {
    TwinLights x = withSheets();
    x.lags(1);
    x.fits(1);
    x.pattern(1);
    x.kinds(0, 0);
    Due.same("guessing", Spent.learned(x), Spent.learned(withSheets()));
  }

  private static TwinLights withSheets() {
    TwinLights x = Due.told("pattern 0;lag 3;ship at 4;ghost at 9");
    Due.sheet(x, 0, 4, 5);
    Due.sheet(x, 1, -1, 0);
    return x;
  }
}
