/** Promises 32 and 33: hold, as. */
public final class SpotsTest {
  public static void main(String[] args) {
    holding();
    asKinds();
    refusals();
    Due.end();
  }

  private static TwinLights seven() {
    return Due.told("ship;tug;liner;yacht;racer;ghost;pilot");
  }

  private static void holding() {
    TwinLights x = seven();
    Due.is("hold(0, 6)", x.hold(0, 6), 1);
    Due.is("hold(9, 6)", x.hold(9, 6), 1);
    Due.is("hold(4, 0)", x.hold(4, 0), 1);
    Due.is("count(7)", x.count(7), 3);
    Due.is("as(0, 0)", x.as(0, 0), 6);
    Due.is("as(9, 0)", x.as(9, 0), 6);
    Due.is("as(4, 0)", x.as(4, 0), 0);
    Due.is("hold(0, 2), another", x.hold(0, 2), 1);
    Due.is("as(0, 0)", x.as(0, 0), 2);
    Due.is("hold(9, -1)", x.hold(9, -1), 1);
    Due.is("hold(9, -1), again", x.hold(9, -1), 1);
    Due.is("count(7)", x.count(7), 2);
    Due.is("as(9, 0)", x.as(9, 0), Due.MISSING);
  }

  private static void asKinds() {
    // Row: the kind that a ship is of; bits: the kinds as which it can be had.
    int[] due = {
      1, 1 | 1 << 1, 1 | 1 << 2, 1 | 1 << 2 | 1 << 3, 1 | 1 << 2 | 1 << 3 | 1 << 4, 1 | 1 << 5,
      1 | 1 << 1 | 1 << 6,
    };
    for (int kind = 0; kind <= 6; kind++) {
      TwinLights x = seven();
      x.hold(3, kind);
      for (int as = 0; as <= 6; as++) {
        Due.is("as(3, " + as + ") of kind " + kind, x.as(3, as),
            (due[kind] >> as & 1) == 1 ? kind : Due.KIND);
      }
    }
    TwinLights y = seven();
    y.hold(3, 0);
    y.change(0, 0, 4);
    Due.is("as(3, 2) of one that has become a racer", y.as(3, 2), 0);
  }

  private static TwinLights holdingOne() {
    TwinLights x = Due.told("tug;liner");
    x.hold(2, 0);
    return x;
  }

  private static void refusals() {
    int low = Integer.MIN_VALUE;
    int high = Integer.MAX_VALUE;
    int[][] holds = {{-1, 0}, {10, 0}, {0, 2}, {0, -2}, {low, 0}, {high, 0}, {2, low}, {2, high},
        {-1, -1}, {10, -1}};
    for (int[] w : holds) {
      Due.refused("hold(" + w[0] + ", " + w[1] + ")", Due.BEYOND, SpotsTest::holdingOne,
          x -> x.hold(w[0], w[1]));
    }
    int[][] asses = {{-1, 0}, {10, 0}, {0, 7}, {0, -1}, {2, 7}, {low, 0}, {high, 0}, {2, low},
        {2, high}};
    for (int[] w : asses) {
      Due.refused("as(" + w[0] + ", " + w[1] + ")", Due.BEYOND, SpotsTest::holdingOne,
          x -> x.as(w[0], w[1]));
    }
    Due.refused("as(3, 6)", Due.MISSING, SpotsTest::holdingOne, x -> x.as(3, 6));
    Due.refused("as(2, 2)", Due.KIND, SpotsTest::holdingOne, x -> x.as(2, 2));
    Due.refused("as(2, 6), the kind under it", Due.KIND, SpotsTest::holdingOne, x -> x.as(2, 6));
  }
}
