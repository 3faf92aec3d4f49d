/** Promises 8 and 9: go, now; and what a tick does to lights and ships. */
public final class TicksTest {
  public static void main(String[] args) {
    shipBetweenTheLights();
    shipThatSeesBoth();
    shipThatStrands();
    kindsThatSail();
    inPort();
    nowTells();
    Due.end();
  }

  private static void shipBetweenTheLights() {
    TwinLights x = new TwinLights();
    x.ship(0, 11);
    // Light on ticks 0 and 2, answered on 4 and 6, and so again from 12 on.
    int[] cells = {12, 13, 14, 15, 14, 13, 12, 11, 10, 9, 8, 7, 8, 9, 10, 11, 10};
    int[] ways = {1, 1, 1, 1, 0, 0, 0, 0, 0, 0, 0, 0, 1, 1, 1, 1, 0};
    int[] saw = {1, 1, 2, 2, 3, 3, 4, 4, 4, 4, 4, 4, 5, 5, 6, 6, 7};
    for (int i = 0; i < cells.length; i++) {
      Due.is("go(1)", x.go(1), 0);
      Due.ship("tick " + i, x, 0, cells[i], ways[i], 0, saw[i]);
    }
    Due.is("light(3)", x.light(3), 0b10100000000010100);
    TwinLights y = new TwinLights();
    y.ship(0, 11);
    y.go(17);
    Due.same("go(17) at once", Due.all(y), Due.all(x));
  }

  private static void shipThatSeesBoth() {
    TwinLights x = new TwinLights();
    x.ship(0, 1);
    x.change(0, 2, 0);
    x.set(0, 0b010101);
    x.set(2, 0);
    x.go(1);
    Due.ship("both seen", x, 0, 1, 0, 0, 2);
    x.go(1);
    Due.ship("neither seen", x, 0, 11, 1, 1, 2);
    x.change(0, 1, 23);
    x.go(1);
    Due.ship("both seen at the end", x, 0, 23, 1, 1, 4);
  }

  private static void shipThatStrands() {
    TwinLights x = new TwinLights();
    x.set(0, 0);
    x.ship(0, 22);
    x.ship(0, 2);
    x.change(1, 2, 0);
    x.change(1, 3, 5);
    Due.is("go(1)", x.go(1), 2);
    Due.ship("the far end", x, 0, 11, 0, 1, 0);
    Due.ship("the near end, past which none goes", x, 1, 11, 1, 1, 0);
    Due.is("go(2)", x.go(2), 2);
    Due.ship("two more", x, 0, 9, 0, 1, 0);
    Due.ship("two more", x, 1, 21, 1, 1, 0);
    Due.is("go(1)", x.go(1), 3);
    Due.ship("one more", x, 1, 11, 0, 2, 0);
    x.change(0, 1, 0);
    x.change(0, 2, 1);
    x.go(1);
    Due.ship("away from the end", x, 0, 1, 1, 1, 0);
    x.change(0, 1, 0);
    x.change(0, 2, 0);
    x.go(1);
    Due.ship("against the end", x, 0, 11, 1, 2, 0);
    x.change(0, 1, 0);
    x.change(0, 3, 0);
    x.change(0, 2, 0);
    x.go(5);
    Due.ship("at the end, without speed", x, 0, 0, 0, 2, 0);
  }

  private static void kindsThatSail() {
    // Both lights are shown, always.
    TwinLights x = Due.told("pattern 4095;book 0;ship at5;tug at5speed4;liner at5speed2;"
        + "yacht at5speed3;racer at5;ghost at5speed2;pilot at5");
    x.go(1);
    Due.ship("tick 0", x, 0, 5, 1, 0, 2);
    Due.ship("tick 0", x, 1, 6, 1, 0, 1);
    Due.ship("tick 0", x, 2, 5, 1, 0, 2);
    Due.ship("tick 0", x, 3, 5, 1, 0, 2);
    // SPEED 1, and 1 as a LINER, and 2: four cells to 0.
    Due.ship("tick 0", x, 4, 1, 0, 0, 1);
    Due.ship("tick 0", x, 5, 7, 1, 0, 0);
    Due.ship("tick 0", x, 6, 7, 1, 0, 1);
    x.go(1);
    Due.ship("tick 1", x, 0, 5, 1, 0, 4);
    Due.ship("tick 1", x, 1, 7, 1, 0, 2);
    Due.ship("tick 1", x, 2, 8, 1, 0, 2);
    Due.ship("tick 1", x, 3, 8, 1, 0, 2);
    Due.ship("tick 1", x, 4, 11, 1, 1, 2);
    Due.ship("tick 1", x, 5, 9, 1, 0, 0);
    Due.ship("tick 1", x, 6, 9, 1, 0, 2);
    x.go(1);
    Due.ship("tick 2", x, 4, 7, 0, 1, 3);
    Due.ship("tick 2", x, 6, 11, 1, 0, 2);
    x.change(6, 1, 12);
    x.go(1);
    Due.ship("tick 3", x, 6, 12, 1, 0, 4);
    Due.ship("tick 3", x, 3, 11, 1, 0, 4);
  }

  private static void inPort() {
    TwinLights x = Due.told("ship at 22 port;ship at 22");
    x.go(1);
    Due.ship("in port", x, 0, 22, 1, 0, 0);
    Due.ship("out of port", x, 1, 11, 0, 1, 1);
    x.change(0, 4, 0);
    x.go(1);
    Due.ship("out again", x, 0, 11, 0, 1, 0);
  }

  private static void nowTells() {
    TwinLights x = Due.told("ship at 5;tug at 3 port;ship at 4;ghost at 4;ship at 23 port");
    int[] due = {0, 0, 0, 0b10010, 0b110000, 2, 0};
    for (int what = 0; what <= 6; what++) {
      Due.is("now(" + what + ")", x.now(what), due[what]);
    }
    x.change(0, 5, 9999);
    x.change(1, 5, 3);
    x.change(2, 6, 9999);
    x.change(4, 6, 2);
    x.set(3, 16777215);
    Due.is("now(1)", x.now(1), 10002);
    Due.is("now(2)", x.now(2), 10001);
    Due.is("now(6)", x.now(6), 24);
    x.go(60);
    x.go(7);
    Due.is("now(0)", x.now(0), 67);
    TwinLights y = new TwinLights();
    Due.is("now(5) of none", y.now(5), -1);
    y.ship(0, 0);
    y.change(0, 4, 1);
    Due.is("now(5) in port", y.now(5), -1);
    Due.is("now(4) in port", y.now(4), 0);
    y.ship(0, 23);
    Due.is("now(5)", y.now(5), 1);
    Due.is("now(4)", y.now(4), 1 << 23);
    y.change(0, 4, 0);
    Due.is("now(5)", y.now(5), 0);
    Due.is("now(4)", y.now(4), 1 << 23 | 1);
  }
}
