/**
 * TICK 99999. No object comes so far in the 512 calls that the document promises, and nothing else
 * could show STATE; the class keeps its word behind them, too.
 */
final class LastTickEdges {
  private LastTickEdges() {}

  static void all() {
    Words.of(Words.TERMS, "TICK is one more (99999 at most).", LastTickEdges::lastTick);
    Words.of(8, "STATE: TICK would be above 99999.", LastTickEdges::goToTheLast);
    Words.of(26, "STATE: TICK would be above 99999.", LastTickEdges::nightsToTheLast);
  }

  /** TICK is 99960. */
  private static TwinLights farOn() {
    TwinLights x = Due.told("ship at 5 port;pattern 8");
    for (int i = 0; i < 1666; i++) {
      x.go(60);
    }
    return x;
  }

  private static void lastTick() {
    TwinLights x = farOn();
    Due.is("count(0)", x.count(0), 99960);
    x.go(39);
    Due.is("count(0)", x.count(0), 99999);
    Due.is("now(0)", x.now(0), 99999);
    x.image();
    Due.is("undo()", x.undo(), 99999);
    // 99999 modulo 12 is 3; TICK stays there for all that would come.
    for (int n = 0; n <= 13; n++) {
      Due.is("shows(0, " + n + ")", x.shows(0, n), 1);
    }
  }

  private static void goToTheLast() {
    Due.is("go(39) from 99960", farOn().go(39), 0);
    Due.refused("go(40) from 99960", Due.STATE, LastTickEdges::farOn, x -> x.go(40));
    Due.refused("go(60) from 99960", Due.STATE, LastTickEdges::farOn, x -> x.go(60));
    Due.refused("go(61) from 99960", Due.BEYOND, LastTickEdges::farOn, x -> x.go(61));
    Due.refused("go(1) from 99999", Due.STATE, LastTickEdges::atTheLast, x -> x.go(1));
    Due.refused("go(0) from 99999", Due.BEYOND, LastTickEdges::atTheLast, x -> x.go(0));
    Due.is("STATE", atTheLast().go(1), -1000005);
  }

  private static TwinLights atTheLast() {
    TwinLights x = farOn();
    x.go(39);
    return x;
  }

  private static void nightsToTheLast() {
    TwinLights x = farOn();
    x.go(19);
    Due.is("nights(20) from 99979", x.nights(20), 0);
    Due.is("count(0)", x.count(0), 99999);
    Due.refused("nights(20) from 99980", Due.STATE, LastTickEdges::twentyAnd1, y -> y.nights(20));
    Due.refused("nights(21) from 99980", Due.BEYOND, LastTickEdges::twentyAnd1, y -> y.nights(21));
    Due.refused("nights(1) from 99999", Due.STATE, LastTickEdges::atTheLast, y -> y.nights(1));
    Due.refused("nights(0) from 99999", Due.BEYOND, LastTickEdges::atTheLast, y -> y.nights(0));
  }

  private static TwinLights twentyAnd1() {
    TwinLights x = farOn();
    x.go(20);
    return x;
  }
}
