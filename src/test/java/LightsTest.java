/** Promises 1 to 3: a new object, set, light. */
public final class LightsTest {
  public static void main(String[] args) {
    newObject();
    objectsStandAlone();
    setAndLight();
    whatIsShown();
    refusals();
    Due.end();
  }

  private static void newObject() {
    TwinLights x = new TwinLights();
    Due.is("light(0)", x.light(0), 5);
    Due.is("light(1)", x.light(1), 4);
    Due.is("light(2)", x.light(2), 1);
    Due.is("light(3)", x.light(3), 0);
    Due.is("light(4)", x.light(4), 1);
    Due.is("light(5)", x.light(5), 0);
    for (int what = 0; what <= 7; what++) {
      Due.is("count(" + what + ")", x.count(what), what == 6 ? 1 : 0);
    }
    for (int which = -1; which <= 6; which++) {
      Due.is("status(" + which + ")", x.status(which), 0);
    }
    Due.is("tear()", x.tear(), 0);
    for (int s = 0; s <= 3; s++) {
      Due.is("judge(" + s + ")", x.judge(s), Due.MISSING);
    }
    for (int spot = 0; spot <= 9; spot++) {
      Due.is("as(" + spot + ", 0)", x.as(spot, 0), Due.MISSING);
    }
    Due.is("undo()", x.undo(), Due.NONE);
  }

  private static void objectsStandAlone() {
    TwinLights one = new TwinLights();
    TwinLights other = new TwinLights();
    one.set(0, 7);
    one.ship(0, 3);
    one.sheet(0, 8, 2);
    Due.is("light(0) of another", other.light(0), 5);
    Due.is("count(1) of another", other.count(1), 0);
    Due.is("judge(0) of another", other.judge(0), Due.MISSING);
  }

  private static void setAndLight() {
    TwinLights x = new TwinLights();
    int[] most = {4095, 23, 1, 16777215};
    int[] first = {5, 4, 1, 0};
    for (int what = 0; what <= 3; what++) {
      String call = "set(" + what + ", ..)";
      Due.is(call, x.set(what, most[what]), first[what]);
      Due.is(call, x.light(what), most[what]);
      Due.is(call, x.set(what, 0), most[what]);
      Due.is(call, x.light(what), 0);
      Due.is(call, x.set(what, 1), 0);
      Due.is(call, x.light(what), 1);
    }
  }

  private static void whatIsShown() {
    TwinLights x = new TwinLights();
    x.set(0, 0b100000000010);
    int[] first = {0, 1, 0, 0, 0, 0, 0, 0, 0, 0, 0, 1, 0, 1, 0};
    for (int tick = 0; tick < first.length; tick++) {
      Due.is("light(4) on " + tick, x.light(4), first[tick]);
      // LAG is 4: what was shown four ticks ago.
      Due.is("light(5) on " + tick, x.light(5), tick < 4 ? 0 : first[tick - 4]);
      x.go(1);
    }
    // Shown on ticks 1, 11 and 13; bit 0 is tick 14.
    Due.is("THE PAST", x.light(3), 1 << 13 | 1 << 3 | 1 << 1);

    TwinLights y = new TwinLights();
    y.set(3, 1 << 22);
    y.set(1, 23);
    Due.is("the farthest lag", y.light(5), 1);
    y.set(3, 1 << 23);
    Due.is("a bit that this tick loses", y.light(5), 0);
    y.set(1, 0);
    y.set(3, 0);
    Due.is("lag 0: the same tick", y.light(5), 1);
    y.set(0, 0);
    y.set(3, 16777215);
    Due.is("lag 0: the same tick, dark", y.light(5), 0);
    y.set(1, 1);
    Due.is("lag 1", y.light(5), 1);
    y.set(2, 0);
    Due.is("a closed book", y.light(5), 0);
    y.go(1);
    Due.is("bits above 23 are lost", y.light(3), 16777214);
  }

  private static void refusals() {
    int[][] wrong = {
      {0, 4096}, {0, -1}, {1, 24}, {1, -1}, {2, 2}, {2, -1}, {3, 16777216}, {3, -1},
      {4, 0}, {-1, 0}, {5, 0}, {Integer.MAX_VALUE, 0}, {Integer.MIN_VALUE, 0},
      {0, Integer.MAX_VALUE}, {0, Integer.MIN_VALUE}, {3, Integer.MIN_VALUE},
    };
    for (int[] w : wrong) {
      Due.refused("set(" + w[0] + ", " + w[1] + ")", Due.BEYOND, TwinLights::new,
          x -> x.set(w[0], w[1]));
    }
    for (int what : new int[] {6, -1, Integer.MAX_VALUE, Integer.MIN_VALUE}) {
      Due.refused("light(" + what + ")", Due.BEYOND, TwinLights::new, x -> x.light(what));
    }
  }
}
