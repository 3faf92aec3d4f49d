/** Promises 16 to 21: lagFor, patternFor, kindFor, start, speedFor, keepIn. */
public final class ShineTest {
  private static final String MANY = "pattern 1235;lag 2;ship at6speed5;tug at2speed3;"
      + "liner at17speed4;yacht at12speed5;racer at20back;ghost at9speed4;pilot at20";

  public static void main(String[] args) {
    lagByHand();
    lagByTrying();
    patternByHand();
    patternByTrying();
    kindByHand();
    startByHand();
    speedByHand();
    keepInByHand();
    shipsByTrying();
    nothingChanges();
    Due.end();
  }

  private static void lagByHand() {
    // THE FIRST is dark. Seeing THE SECOND now turns the ship away from the far end.
    TwinLights x = Due.told("pattern 0;ship at 22");
    x.set(3, 0b100000);
    Due.is("lagFor(0)", x.lagFor(0), 0);
    // Bit 5 is seen on this tick with LAG 6.
    Due.is("lagFor(1)", x.lagFor(1), 6);
    x.set(3, 1 << 22);
    Due.is("lagFor(1), the greatest", x.lagFor(1), 23);
    x.set(2, 0);
    Due.is("lagFor(1) with a closed book", x.lagFor(1), 0);
    TwinLights y = Due.told("pattern 0;ship at 22;ship at 22 port");
    y.set(3, 0b1000001);
    Due.is("lagFor(1)", y.lagFor(1), 1);
    Due.is("lagFor() without ships", new TwinLights().lagFor(60), 0);
  }

  private static void lagByTrying() {
    for (int n : new int[] {0, 1, 5, 20, 60}) {
      int best = -1;
      int fewest = Integer.MAX_VALUE;
      for (int lag = 0; lag <= 23; lag++) {
        TwinLights x = later();
        x.set(1, lag);
        int stranded = behind(x, n);
        if (stranded < fewest) {
          fewest = stranded;
          best = lag;
        }
      }
      Due.is("lagFor(" + n + ")", later().lagFor(n), best);
    }
  }

  private static TwinLights later() {
    TwinLights x = Due.told(MANY);
    x.go(9);
    return x;
  }

  private static int behind(TwinLights x, int n) {
    return n == 0 ? x.now(1) : x.go(n);
  }

  private static void patternByHand() {
    // At 1 and on the way to 0, it must see THE FIRST on this tick, which is tick 3.
    TwinLights x = new TwinLights();
    x.go(3);
    x.set(3, 0);
    x.ship(0, 1);
    x.change(0, 2, 0);
    Due.is("patternFor(0)", x.patternFor(0), 0);
    Due.is("patternFor(1)", x.patternFor(1), 0b1000);
    Due.is("patternFor(8)", x.patternFor(8), 0b1000);
    // Light on 3 is answered on 7 and turns it back at 5, to strand on 11, unless it sees both.
    Due.is("patternFor(9)", x.patternFor(9), 0b10001000);
    Due.is("patternFor(12)", x.patternFor(12), 0b10001000);
    // A ship at 12 that sails to 23 in 11 ticks, unless THE SECOND or both are shown.
    TwinLights y = Due.told("pattern 4095;ship at 12");
    Due.is("patternFor(10)", y.patternFor(10), 0);
    Due.is("patternFor(11)", y.patternFor(11), 1);
    y.set(1, 23);
    Due.is("patternFor(12) that none sees answered", y.patternFor(12), 0);
    y.set(2, 0);
    Due.is("patternFor(11) with a closed book", y.patternFor(11), 1);
    Due.is("patternFor(12) with a closed book", y.patternFor(12), 3);
    y.go(11);
    y.change(0, 1, 12);
    y.change(0, 2, 1);
    Due.is("patternFor(12) from tick 11 on", y.patternFor(12), 3);
    Due.is("patternFor(11) from tick 11 on", y.patternFor(11), 1);
    y.change(0, 5, 9999);
    Due.is("patternFor(12) at the most", y.patternFor(12), 0);
    Due.is("patternFor() without ships", new TwinLights().patternFor(12), 0);
  }

  private static void patternByTrying() {
    for (int n : new int[] {1, 2, 4, 7, 12}) {
      int best = -1;
      int fewest = Integer.MAX_VALUE;
      TwinLights x = later();
      x.image();
      for (int pattern = 0; pattern <= 4095; pattern++) {
        if (pattern % 128 == 127) {
          x = later();
          x.image();
        }
        x.undo();
        x.set(0, pattern);
        int stranded = x.go(n);
        if (stranded < fewest) {
          fewest = stranded;
          best = pattern;
        }
      }
      Due.is("patternFor(" + n + ")", later().patternFor(n), best);
    }
  }

  private static void kindByHand() {
    // Dark. Of speed 3 at 20: only a TUG, a PILOT and a GHOST (which stays) don't strand now.
    TwinLights x = Due.told("pattern 0;ship at 20 speed 3");
    Due.is("kindFor(0, 0)", x.kindFor(0, 0), 0);
    Due.is("kindFor(0, 1)", x.kindFor(0, 1), 1);
    Due.is("kindFor(0, 2)", x.kindFor(0, 2), 1);
    Due.is("kindFor(0, 3)", x.kindFor(0, 3), 5);
    x.change(0, 3, 0);
    Due.is("kindFor(0, 60)", x.kindFor(0, 60), 0);
    x.change(0, 3, 3);
    x.change(0, 0, 6);
    x.change(0, 4, 1);
    Due.is("kindFor(0, 60) in port", x.kindFor(0, 60), 0);
  }

  private static void startByHand() {
    // Dark, to greater cells, 2 a tick: from 21 and 22 it strands now, from 19 on in 2.
    TwinLights x = Due.told("pattern 0;ship at 22 speed 2");
    Due.is("start(0, 0)", x.start(0, 0), 0);
    Due.is("start(0, 5)", x.start(0, 5), 0);
    x.change(0, 2, 0);
    Due.is("start(0, 1)", x.start(0, 1), 3);
    Due.is("start(0, 3)", x.start(0, 3), 7);
    // From every cell it strands once in 12, from 0 and 1 it does so at once.
    Due.is("start(0, 12)", x.start(0, 12), startByTrying(12));
    x.change(0, 3, 1);
    Due.is("start(0, 22), the farthest", x.start(0, 22), 23);
    x.change(0, 4, 1);
    Due.is("start(0, 60) in port", x.start(0, 60), 0);
  }

  private static int startByTrying(int n) {
    int best = -1;
    int fewest = Integer.MAX_VALUE;
    for (int cell = 0; cell <= 23; cell++) {
      TwinLights x = Due.told("pattern 0;ship back speed 2");
      x.change(0, 1, cell);
      int stranded = x.go(n);
      if (stranded < fewest) {
        fewest = stranded;
        best = cell;
      }
    }
    return best;
  }

  private static void speedByHand() {
    TwinLights x = Due.told("pattern 0;ship at 11;liner at 22;ship at 3 port");
    x.change(0, 5, 7);
    Due.is("speedFor(0, 0)", x.speedFor(0, 0), 5);
    Due.is("speedFor(0, 2)", x.speedFor(0, 2), 5);
    Due.is("speedFor(0, 3)", x.speedFor(0, 3), 3);
    Due.is("speedFor(0, 4)", x.speedFor(0, 4), 2);
    Due.is("speedFor(0, 11)", x.speedFor(0, 11), 1);
    Due.is("speedFor(0, 12)", x.speedFor(0, 12), 0);
    Due.is("speedFor(0, 60)", x.speedFor(0, 60), 0);
    Due.is("speedFor(1, 0)", x.speedFor(1, 0), 5);
    Due.is("speedFor(1, 1)", x.speedFor(1, 1), Due.NONE);
    Due.is("speedFor(2, 60)", x.speedFor(2, 60), 5);
    x.change(0, 5, 9999);
    Due.is("speedFor(0, 60) at its most", x.speedFor(0, 60), 5);
  }

  private static void keepInByHand() {
    // Dark, 20 ticks: 22 strands once and then on 12; speed 5 far oftener; 3 back once.
    TwinLights x = Due.told("pattern 0;ship at22;ship speed5;ship at3back;ship at8port");
    x.change(3, 5, 2);
    int[] gains = {ahead(x, 0), ahead(x, 1), ahead(x, 2), ahead(x, 3)};
    Due.is("the first's gain", gains[0], 2);
    Due.is("the third's gain", gains[2], 2);
    Due.is("the second's gain", gains[1], 6);
    Due.is("keepIn(12, 20)", x.keepIn(12, 20), 0);
    Due.is("keepIn(11, 20)", x.keepIn(11, 20), 0b001);
    Due.is("keepIn(10, 20)", x.keepIn(10, 20), 0b001);
    Due.is("keepIn(9, 20)", x.keepIn(9, 20), 0b010);
    Due.is("keepIn(6, 20)", x.keepIn(6, 20), 0b010);
    Due.is("keepIn(5, 20)", x.keepIn(5, 20), 0b011);
    Due.is("keepIn(4, 20)", x.keepIn(4, 20), 0b011);
    Due.is("keepIn(3, 20)", x.keepIn(3, 20), 0b111);
    Due.is("keepIn(2, 20)", x.keepIn(2, 20), 0b111);
    Due.is("keepIn(1, 20)", x.keepIn(1, 20), Due.NONE);
    Due.is("keepIn(2, 0)", x.keepIn(2, 0), 0);
    Due.is("keepIn(1, 0)", x.keepIn(1, 0), Due.NONE);
    Due.is("keepIn(9999, 20)", x.keepIn(9999, 20), 0);
    x.change(0, 5, 9999);
    x.change(1, 5, 9999);
    Due.is("keepIn(9999, 0), far above", x.keepIn(9999, 0), Due.NONE);
    Due.is("keepIn() without ships", new TwinLights().keepIn(0, 20), 0);
    TwinLights full = Due.told("pattern 0;ship at22;ship at22;ship at22;ship at22;ship at22;"
        + "ship at22;ship at22;ship at22");
    Due.is("keepIn(0, 1) of eight", full.keepIn(0, 1), 255);
    Due.is("keepIn(3, 1) of eight", full.keepIn(3, 1), 31);
  }

  private static int ahead(TwinLights x, int ship) {
    return x.ahead(ship, 5, 20) - x.of(ship, 5);
  }

  private static void shipsByTrying() {
    for (int ship = 0; ship < 7; ship++) {
      for (int n : new int[] {0, 3, 12, 41, 60}) {
        Due.is("kindFor(" + ship + ", " + n + ")", later().kindFor(ship, n),
            leastByTrying(ship, 0, 6, n));
        Due.is("start(" + ship + ", " + n + ")", later().start(ship, n),
            leastByTrying(ship, 1, 23, n));
        Due.is("speedFor(" + ship + ", " + n + ")", later().speedFor(ship, n),
            greatestSpeedByTrying(ship, n));
      }
    }
  }

  private static int leastByTrying(int ship, int what, int most, int n) {
    int best = -1;
    int fewest = Integer.MAX_VALUE;
    for (int v = 0; v <= most; v++) {
      TwinLights x = later();
      x.change(ship, what, v);
      behind(x, n);
      if (x.of(ship, 5) < fewest) {
        fewest = x.of(ship, 5);
        best = v;
      }
    }
    return best;
  }

  private static int greatestSpeedByTrying(int ship, int n) {
    for (int speed = 5; speed >= 0; speed--) {
      TwinLights x = later();
      int before = x.of(ship, 5);
      x.change(ship, 3, speed);
      behind(x, n);
      if (x.of(ship, 5) == before) {
        return speed;
      }
    }
    return Due.NONE;
  }

  private static void nothingChanges() {
    TwinLights x = later();
    x.hold(2, 3);
    x.lagFor(60);
    x.patternFor(12);
    x.kindFor(2, 60);
    x.start(3, 60);
    x.speedFor(4, 60);
    x.keepIn(9999, 20);
    TwinLights same = later();
    same.hold(2, 3);
    Due.same("asking how to shine", Spent.learned(x), Spent.learned(same));
  }
}
