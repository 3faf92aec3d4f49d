/** Promises 32 and 33: what spots hold, one upon another. */
public final class SpotsTest {
  public static void main(String[] args) {
    holding();
    Due.end();
  }

  private static TwinLights seven() {
    return Due.told("ship;tug;liner;yacht;racer;ghost;pilot");
  }

  private static void holding() {
    TwinLights x = seven();
    Due.is("hold(0, 6)", x.hold(0, 6), 1);
    Due.is("hold(9, 6)", x.hold(9, 6), 1);
    Due.is("hold(4, 0)", x.hold(4, 0), 1);
    Due.is("count(7)", x.count(7), 3);
    Due.is("as(0, 0)", x.as(0, 0), 6);
    Due.is("as(9, 0)", x.as(9, 0), 6);
    Due.is("as(4, 0)", x.as(4, 0), 0);
    Due.is("hold(0, 2), another", x.hold(0, 2), 1);
    Due.is("as(0, 0)", x.as(0, 0), 2);
    Due.is("hold(9, -1)", x.hold(9, -1), 1);
    Due.is("hold(9, -1), again", x.hold(9, -1), 1);
    Due.is("count(7)", x.count(7), 2);
    Due.is("as(9, 0)", x.as(9, 0), Due.MISSING);
  }
}
