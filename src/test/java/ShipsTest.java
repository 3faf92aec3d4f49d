/** Promises 4 to 7: ship, of, change, who; and how each kind sees and goes. */
public final class ShipsTest {
  private static final int SHIP = 0;
  private static final int TUG = 1;
  private static final int LINER = 2;
  private static final int YACHT = 3;
  private static final int RACER = 4;
  private static final int GHOST = 5;
  private static final int PILOT = 6;

  public static void main(String[] args) {
    newShips();
    goes();
    seesWhenBothAreShown();
    seesWhenOneIsShown();
    changes();
    whoIsThere();
    refusals();
    Due.end();
  }

  private static void newShips() {
    TwinLights x = new TwinLights();
    for (int i = 0; i < 7; i++) {
      Due.is("ship(" + i + ", ..)", x.ship(i, i == 6 ? 23 : i), i);
    }
    int[] due = {4, 4, 1, 1, 0, 0, 0};
    for (int what = 0; what < due.length; what++) {
      Due.is("of(4, " + what + ")", x.of(4, what), due[what]);
    }
    Due.is("of(6, 0)", x.of(6, 0), 6);
    Due.is("of(6, 1)", x.of(6, 1), 23);
    Due.is("ship(0, 0)", x.ship(0, 0), 7);
    Due.is("count(1)", x.count(1), 8);
  }

  /** One ship, seen on an even tick and on an odd one; it lies in port meanwhile. */
  private static void goes() {
    for (int speed = 0; speed <= 5; speed++) {
      int tug = speed > 0 ? 1 : 0;
      int[] even = {speed, tug, speed + 1, speed + 1, speed + 3, speed, 2 * tug};
      int[] odd = {speed, tug, speed + 1, speed, speed + 2, speed, 2 * tug};
      for (int kind = 0; kind <= 6; kind++) {
        TwinLights x = new TwinLights();
        x.ship(kind, 11);
        x.change(0, 3, speed);
        x.change(0, 4, 1);
        String call = "of(0, 7) of kind " + kind + ", speed " + speed;
        Due.is(call + ", even", x.of(0, 7), even[kind]);
        x.go(1);
        Due.is(call + ", odd", x.of(0, 7), odd[kind]);
      }
    }
  }

  private static int seen(int kind, int cell, int speed, int first, int second, int tick) {
    TwinLights x = new TwinLights();
    x.ship(kind, cell);
    x.change(0, 3, speed);
    x.change(0, 4, 1);
    if (tick > 0) {
      x.go(tick);
    }
    x.set(0, first == 1 ? 4095 : 0);
    x.set(1, 1);
    x.set(3, second);
    return x.of(0, 8);
  }

  private static void sees(int due, int kind, int cell, int speed, int lights, int tick) {
    Due.is("of(0, 8) of kind " + kind + " at " + cell + ", speed " + speed + ", lights " + lights
        + ", tick " + tick, seen(kind, cell, speed, lights & 1, lights >> 1, tick), due);
  }

  private static void seesWhenBothAreShown() {
    sees(3, SHIP, 11, 1, 3, 0);
    sees(3, SHIP, 11, 5, 3, 1);
    sees(1, TUG, 0, 1, 3, 0);
    sees(1, TUG, 8, 1, 3, 1);
    sees(0, TUG, 9, 1, 3, 0);
    sees(0, TUG, 14, 1, 3, 0);
    sees(2, TUG, 15, 1, 3, 0);
    sees(2, TUG, 23, 1, 3, 0);
    sees(3, PILOT, 8, 1, 3, 0);
    sees(1, PILOT, 7, 1, 3, 0);
    sees(0, PILOT, 9, 1, 3, 0);
    sees(3, PILOT, 10, 1, 3, 1);
    sees(3, PILOT, 0, 1, 3, 0);
    sees(0, PILOT, 13, 1, 3, 0);
    sees(2, PILOT, 15, 1, 3, 0);
    sees(3, PILOT, 16, 1, 3, 0);
    sees(3, LINER, 11, 0, 3, 0);
    sees(0, LINER, 11, 0, 3, 1);
    sees(3, LINER, 11, 5, 3, 2);
    sees(3, YACHT, 11, 2, 3, 0);
    sees(0, YACHT, 11, 2, 3, 1);
    sees(3, YACHT, 11, 1, 3, 1);
    sees(3, YACHT, 11, 0, 3, 1);
    sees(2, RACER, 11, 0, 3, 0);
    sees(2, RACER, 11, 3, 3, 1);
    sees(0, GHOST, 11, 1, 3, 0);
  }

  private static void seesWhenOneIsShown() {
    for (int lights = 0; lights <= 2; lights++) {
      sees(lights, SHIP, 11, 1, lights, 0);
      sees(lights & 1, TUG, 8, 1, lights, 0);
      sees(lights & 2, TUG, 15, 1, lights, 0);
      sees(lights, PILOT, 12, 1, lights, 0);
      sees(lights & 2, PILOT, 21, 1, lights, 0);
      sees(lights, LINER, 11, 1, lights, 0);
      sees(0, LINER, 11, 1, lights, 1);
      sees(lights, YACHT, 11, 1, lights, 1);
      sees(0, YACHT, 11, 2, lights, 1);
      sees(lights & 2, RACER, 11, 1, lights, 0);
      sees(3 - lights, GHOST, 11, 1, lights, 0);
    }
  }

  private static void changes() {
    int[] most = {6, 23, 1, 5, 1, 9999, 9999};
    int[] first = {0, 7, 1, 1, 0, 0, 0};
    TwinLights x = new TwinLights();
    x.ship(0, 5);
    x.ship(0, 7);
    for (int what = 0; what <= 6; what++) {
      String call = "change(1, " + what + ", ..)";
      Due.is(call, x.change(1, what, most[what]), first[what]);
      Due.is(call, x.of(1, what), most[what]);
      Due.is(call, x.change(1, what, 0), most[what]);
      Due.is(call, x.of(1, what), 0);
      Due.is(call, x.change(1, what, most[what]), 0);
    }
    int[] untouched = {0, 5, 1, 1, 0, 0, 0};
    for (int what = 0; what <= 6; what++) {
      Due.is("of(0, " + what + ")", x.of(0, what), untouched[what]);
      Due.is("of(1, " + what + ")", x.of(1, what), most[what]);
    }
  }

  private static void whoIsThere() {
    TwinLights x = Due.told("tug at 0;ship at 23;ship at 0;ship at 0 port;ship at 0;ghost at 12");
    Due.is("who(0)", x.who(0), 0b10101);
    Due.is("who(23)", x.who(23), 0b10);
    Due.is("who(12)", x.who(12), 0b100000);
    Due.is("who(1)", x.who(1), 0);
    x.change(3, 4, 0);
    Due.is("who(0)", x.who(0), 0b11101);
  }

  private static void refusals() {
    int low = Integer.MIN_VALUE;
    int high = Integer.MAX_VALUE;
    int[][] ships = {{7, 0}, {-1, 0}, {0, 24}, {0, -1}, {low, 0}, {high, 0}, {0, low}, {0, high}};
    for (int[] w : ships) {
      Due.refused("ship(" + w[0] + ", " + w[1] + ")", Due.BEYOND, ShipsTest::two,
          x -> x.ship(w[0], w[1]));
      Due.refused("ship(" + w[0] + ", " + w[1] + ") of a full sea", Due.BEYOND, ShipsTest::eight,
          x -> x.ship(w[0], w[1]));
    }
    Due.refused("ship(0, 0) of a full sea", Due.FULL, ShipsTest::eight, x -> x.ship(0, 0));
    int[][] ofs = {{2, 0}, {-1, 0}, {0, 9}, {0, -1}, {low, 1}, {high, 1}, {1, low}, {1, high}};
    for (int[] w : ofs) {
      Due.refused("of(" + w[0] + ", " + w[1] + ")", Due.BEYOND, ShipsTest::two,
          x -> x.of(w[0], w[1]));
    }
    int[][] changes = {
      {2, 0, 0}, {-1, 0, 0}, {low, 0, 0}, {high, 0, 0},
      {0, 7, 0}, {0, 8, 0}, {0, -1, 0}, {0, low, 0}, {0, high, 0},
      {0, 0, 7}, {0, 0, -1}, {0, 1, 24}, {0, 1, -1}, {0, 2, 2}, {0, 2, -1}, {0, 3, 6}, {0, 3, -1},
      {0, 4, 2}, {0, 4, -1}, {0, 5, 10000}, {0, 5, -1}, {0, 6, 10000}, {0, 6, -1},
      {0, 5, high}, {0, 6, low},
    };
    for (int[] w : changes) {
      Due.refused("change(" + w[0] + ", " + w[1] + ", " + w[2] + ")", Due.BEYOND, ShipsTest::two,
          x -> x.change(w[0], w[1], w[2]));
    }
    for (int cell : new int[] {24, -1, low, high}) {
      Due.refused("who(" + cell + ")", Due.BEYOND, ShipsTest::two, x -> x.who(cell));
    }
  }

  private static TwinLights two() {
    return Due.told("ship at 3;tug");
  }

  private static TwinLights eight() {
    return Due.told("ship;ship;ship;ship;ship;ship;ship;ship");
  }
}
