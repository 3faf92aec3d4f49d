/** Promises 10 to 15: ahead, shows, strands, when, meet, period. */
public final class AheadTest {
  public static void main(String[] args) {
    aheadByHand();
    aheadIsWhatComes();
    showsByHand();
    strandsByHand();
    whenByHand();
    meetByHand();
    fromAnOddTick();
    periods();
    Due.end();
  }

  private static void aheadByHand() {
    TwinLights x = Due.told("ship");
    Due.is("ahead(0, 1, 0)", x.ahead(0, 1, 0), 11);
    Due.is("ahead(0, 1, 4)", x.ahead(0, 1, 4), 15);
    Due.is("ahead(0, 2, 4)", x.ahead(0, 2, 4), 1);
    Due.is("ahead(0, 1, 5)", x.ahead(0, 1, 5), 14);
    Due.is("ahead(0, 2, 5)", x.ahead(0, 2, 5), 0);
    Due.is("ahead(0, 6, 5)", x.ahead(0, 6, 5), 3);
    Due.is("ahead(0, 5, 5)", x.ahead(0, 5, 5), 0);
    // Dark: 12 ticks to the far end, then 11 to each end.
    TwinLights y = Due.told("pattern 0;ship");
    Due.is("ahead(0, 5, 11)", y.ahead(0, 5, 11), 0);
    Due.is("ahead(0, 5, 12)", y.ahead(0, 5, 12), 1);
    Due.is("ahead(0, 5, 22)", y.ahead(0, 5, 22), 1);
    Due.is("ahead(0, 5, 23)", y.ahead(0, 5, 23), 2);
    Due.is("ahead(0, 5, 100)", y.ahead(0, 5, 100), 8);
    Due.is("ahead(0, 6, 100)", y.ahead(0, 6, 100), 0);
  }

  private static TwinLights seven() {
    return Due.told("pattern 1235;lag 2;ship at6;tug at4speed3;liner at17back speed2;yacht at12;"
        + "racer at20back;ghost at9speed2;pilot at14");
  }

  private static void aheadIsWhatComes() {
    for (int n : new int[] {1, 2, 7, 24, 60}) {
      TwinLights x = seven();
      TwinLights y = seven();
      y.go(n);
      for (int ship = 0; ship < 7; ship++) {
        for (int what : new int[] {1, 2, 5, 6}) {
          Due.is("ahead(" + ship + ", " + what + ", " + n + ")", x.ahead(ship, what, n),
              y.of(ship, what));
        }
      }
    }
  }

  private static void showsByHand() {
    TwinLights x = Due.told("pattern 1235;lag 2");
    int[] first = {1, 1, 0, 0, 1, 0, 1, 1, 0, 0, 1, 0};
    for (int n = 0; n <= 100; n++) {
      Due.is("shows(0, " + n + ")", x.shows(0, n), first[n % 12]);
      Due.is("shows(1, " + n + ")", x.shows(1, n), n < 2 ? 0 : first[(n - 2) % 12]);
    }
    x.go(7);
    x.set(3, 0b10);
    Due.is("shows(1, 0)", x.shows(1, 0), 1);
    Due.is("shows(1, 1)", x.shows(1, 1), 0);
    Due.is("shows(1, 2)", x.shows(1, 2), 1);
    Due.is("shows(0, 2)", x.shows(0, 2), 0);
    x.set(2, 0);
    Due.is("shows(1, 0)", x.shows(1, 0), 1);
    Due.is("shows(1, 3)", x.shows(1, 3), 1);
    Due.is("shows(1, 4)", x.shows(1, 4), 0);
    x.set(2, 1);
    x.set(1, 23);
    x.set(3, 1 << 12);
    for (int n = 0; n <= 22; n++) {
      Due.is("shows(1, " + n + ") with lag 23", x.shows(1, n), n == 10 ? 1 : 0);
    }
    Due.is("shows(1, 23) with lag 23", x.shows(1, 23), 1);
  }

  private static void strandsByHand() {
    TwinLights x = Due.told("pattern 0;ship;ship speed5;ship back;ship at22;ship port;ship speed0;"
        + "ship at0back;ghost");
    int[] due = {12, 3, 11, 1, Due.NONE, Due.NONE, 1, Due.NONE};
    for (int ship = 0; ship < due.length; ship++) {
      Due.is("strands(" + ship + ")", x.strands(ship), due[ship]);
    }
    x.change(0, 5, 9999);
    Due.is("strands(0) at its most", x.strands(0), Due.NONE);
    x.change(0, 5, 9998);
    Due.is("strands(0) short of it", x.strands(0), 12);
    // A ship that every 12th tick goes a cell, since both lights are shown else.
    TwinLights y = Due.told("pattern 4094;book 0;ship at 6;ship at 7");
    Due.is("strands(0), the 17th dark tick", y.strands(0), 193);
    Due.is("strands(1), the 16th dark tick", y.strands(1), 181);
    y.change(0, 1, 5);
    Due.is("strands(0), too far", y.strands(0), Due.NONE);
    TwinLights z = Due.told("pattern 2048;book 0;ghost at 7");
    // Dark is what a GHOST sees: it goes on ticks 11, 23, .. alone.
    Due.is("strands(0) of a ghost, on tick 191", z.strands(0), 192);
    z.go(1);
    Due.is("strands(0) of a ghost a tick on", z.strands(0), 191);
    z.change(0, 1, 6);
    Due.is("strands(0) of a ghost, on tick 203", z.strands(0), Due.NONE);
    z.go(2);
    Due.is("strands(0) of a ghost, 201 from here", z.strands(0), Due.NONE);
    z.go(1);
    Due.is("strands(0) of a ghost, 200 from here", z.strands(0), 200);
  }

  private static void whenByHand() {
    TwinLights x = Due.told("pattern 0;ship;ship at5speed0;ship at5port;ship speed5");
    Due.is("when(0, 11)", x.when(0, 11), 0);
    Due.is("when(0, 22)", x.when(0, 22), 11);
    Due.is("when(0, 10)", x.when(0, 10), 13);
    Due.is("when(0, 1)", x.when(0, 1), 22);
    // It is told AT 11 when a tick has taken it to 0 or 23.
    Due.is("when(0, 0)", x.when(0, 0), Due.NONE);
    Due.is("when(0, 23)", x.when(0, 23), Due.NONE);
    Due.is("when(1, 5)", x.when(1, 5), 0);
    Due.is("when(1, 6)", x.when(1, 6), Due.NONE);
    Due.is("when(2, 5)", x.when(2, 5), 0);
    Due.is("when(2, 11)", x.when(2, 11), Due.NONE);
    Due.is("when(3, 21)", x.when(3, 21), 2);
    Due.is("when(3, 12)", x.when(3, 12), Due.NONE);
    Due.is("when(3, 6)", x.when(3, 6), 4);
    x.change(0, 1, 0);
    Due.is("when(0, 0)", x.when(0, 0), 0);
    TwinLights z = Due.told("pattern 2048;book 0;ghost at 4");
    z.go(3);
    Due.is("when(0, 21), 201 from here", z.when(0, 21), Due.NONE);
    z.go(1);
    Due.is("when(0, 21), 200 from here", z.when(0, 21), 200);
  }

  private static void meetByHand() {
    TwinLights x = Due.told("pattern 0;ship at3;ship at13back;ship at3port;ship at7port;ship at4");
    Due.is("meet(0, 1)", x.meet(0, 1), 5);
    Due.is("meet(1, 0)", x.meet(1, 0), 5);
    Due.is("meet(0, 2)", x.meet(0, 2), 0);
    Due.is("meet(2, 3)", x.meet(2, 3), Due.NONE);
    Due.is("meet(0, 3)", x.meet(0, 3), 4);
    // They pass one another between two cells, and turn at the ends six ticks apart.
    Due.is("meet(1, 4)", x.meet(1, 4), Due.NONE);
    TwinLights z = Due.told("pattern 2048;book 0;ghost at 4;ship at 21 port");
    z.go(3);
    Due.is("meet(0, 1), 201 from here", z.meet(0, 1), Due.NONE);
    z.go(1);
    Due.is("meet(0, 1), 200 from here", z.meet(0, 1), 200);
  }

  /** A YACHT without SPEED goes a cell on each even tick; what was kept or told before is past. */
  private static void fromAnOddTick() {
    TwinLights x = Due.told("pattern 0;yacht at 9 speed 0;ship at 12 port");
    x.image();
    x.go(1);
    Due.is("of(0, 1)", x.of(0, 1), 10);
    Due.is("ahead(0, 1, 1)", x.ahead(0, 1, 1), 10);
    Due.is("ahead(0, 1, 2)", x.ahead(0, 1, 2), 11);
    Due.is("when(0, 11)", x.when(0, 11), 2);
    Due.is("meet(0, 1)", x.meet(0, 1), 4);
    // 13 cells to 23, on ticks 2, 4, .. 26.
    Due.is("strands(0)", x.strands(0), 26);
    Due.sheet(x, 0, 10, 10, 11, 11, 12);
    Due.is("kinds(0, 0)", x.kinds(0, 0), 1 << 3);
    x.change(0, 1, 22);
    Due.is("keepIn(0, 1)", x.keepIn(0, 1), 0);
    Due.is("keepIn(0, 2)", x.keepIn(0, 2), 1);
    Due.is("kindFor(0, 1)", x.kindFor(0, 1), 0);
    Due.is("speedFor(0, 1)", x.speedFor(0, 1), 0);
    Due.is("speedFor(0, 2)", x.speedFor(0, 2), Due.NONE);
    x.undo();
    Due.is("when(0, 11) from tick 0", x.when(0, 11), 3);
  }

  private static void periods() {
    int[][] due = {
      {0, 1}, {4095, 1}, {0b010101010101, 2}, {0b101010101010, 2}, {0b001001001001, 3},
      {0b110110110110, 3}, {0b000100010001, 4}, {0b011101110111, 4}, {0b000001000001, 6},
      {1235, 6}, {1, 12}, {5, 12}, {2048, 12}, {4094, 12}, {0b000000111111, 12},
    };
    for (int[] row : due) {
      TwinLights x = new TwinLights();
      x.set(0, row[0]);
      Due.is("period() of " + row[0], x.period(), row[1]);
    }
  }
}
