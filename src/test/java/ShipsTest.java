/** Promises 4 to 7: new ships, and where they are. */
public final class ShipsTest {
  public static void main(String[] args) {
    newShips();
    whoIsThere();
    Due.end();
  }

  private static void newShips() {
    TwinLights x = new TwinLights();
    for (int i = 0; i < 7; i++) {
      Due.is("ship(" + i + ", ..)", x.ship(i, i == 6 ? 23 : i), i);
    }
    int[] due = {4, 4, 1, 1, 0, 0, 0};
    for (int what = 0; what < due.length; what++) {
      Due.is("of(4, " + what + ")", x.of(4, what), due[what]);
    }
    Due.is("of(6, 0)", x.of(6, 0), 6);
    Due.is("of(6, 1)", x.of(6, 1), 23);
    Due.is("ship(0, 0)", x.ship(0, 0), 7);
    Due.is("count(1)", x.count(1), 8);
  }

  private static void whoIsThere() {
    TwinLights x = Due.told("tug at 0;ship at 23;ship at 0;ship at 0 port;ship at 0;ghost at 12");
    Due.is("who(0)", x.who(0), 0b10101);
    Due.is("who(23)", x.who(23), 0b10);
    Due.is("who(12)", x.who(12), 0b100000);
    Due.is("who(1)", x.who(1), 0);
    x.change(3, 4, 0);
    Due.is("who(0)", x.who(0), 0b11101);
  }
}
