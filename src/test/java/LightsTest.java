/** Promises 1 to 3: each object for itself, and what the lights show. */
public final class LightsTest {
  public static void main(String[] args) {
    objectsStandAlone();
    whatIsShown();
    Due.end();
  }

  private static void objectsStandAlone() {
    TwinLights one = new TwinLights();
    TwinLights other = new TwinLights();
    one.set(0, 7);
    one.ship(0, 3);
    one.sheet(0, 8, 2);
    Due.is("light(0) of another", other.light(0), 5);
    Due.is("count(1) of another", other.count(1), 0);
    Due.is("judge(0) of another", other.judge(0), Due.MISSING);
  }

  private static void whatIsShown() {
    TwinLights x = new TwinLights();
    x.set(0, 0b100000000010);
    int[] first = {0, 1, 0, 0, 0, 0, 0, 0, 0, 0, 0, 1, 0, 1, 0};
    for (int tick = 0; tick < first.length; tick++) {
      Due.is("light(4) on " + tick, x.light(4), first[tick]);
      // LAG is 4: what was shown four ticks ago.
      Due.is("light(5) on " + tick, x.light(5), tick < 4 ? 0 : first[tick - 4]);
      x.go(1);
    }
    // Shown on ticks 1, 11 and 13; bit 0 is tick 14.
    Due.is("THE PAST", x.light(3), 1 << 13 | 1 << 3 | 1 << 1);

    TwinLights y = new TwinLights();
    y.set(3, 1 << 22);
    y.set(1, 23);
    Due.is("the farthest lag", y.light(5), 1);
    y.set(3, 1 << 23);
    Due.is("a bit that this tick loses", y.light(5), 0);
    y.set(1, 0);
    y.set(3, 0);
    Due.is("lag 0: the same tick", y.light(5), 1);
    y.set(0, 0);
    y.set(3, 16777215);
    Due.is("lag 0: the same tick, dark", y.light(5), 0);
    y.set(1, 1);
    Due.is("lag 1", y.light(5), 1);
    y.set(2, 0);
    Due.is("a closed book", y.light(5), 0);
    y.go(1);
    Due.is("bits above 23 are lost", y.light(3), 16777214);
  }
}
