/** The edges that the terms name of ships: cells, values, what each kind sees, how far it goes. */
final class ShipTermsEdges {
  private static final int SHIP = 0;
  private static final int TUG = 1;
  private static final int LINER = 2;
  private static final int YACHT = 3;
  private static final int RACER = 4;
  private static final int GHOST = 5;
  private static final int PILOT = 6;

  private ShipTermsEdges() {}

  static void all() {
    Words.of(Words.TERMS, "CELLS 0 to 23 (THE FIRST is at 0, THE SECOND at 23).",
        ShipTermsEdges::cells);
    Words.of(Words.TERMS, "SHIPS 0, 1, .. (at most 8),", ShipTermsEdges::eightShips);
    Words.of(Words.TERMS,
        "of KINDS: 0 SHIP; 1 TUG, 2 LINER, 5 GHOST under SHIP; 3 YACHT under LINER; 4 RACER "
            + "under YACHT; 6 PILOT under TUG;",
        ShipTermsEdges::kindsUnderKinds);
    Words.of(Words.TERMS, "each AT a CELL,", ShipTermsEdges::atEachCell);
    Words.of(Words.TERMS, "with a WAY (1 to greater CELLS, 0 to lesser ones; 1 at first),",
        ShipTermsEdges::ways);
    Words.of(Words.TERMS, "a SPEED (0 to 5; 1 at first),", () -> value(3, 5, 1));
    Words.of(Words.TERMS, "PORT (in it or not: 1 or 0; 0 at first),", () -> value(4, 1, 0));
    Words.of(Words.TERMS, "STRANDED (how often; 0 to 9999; 0 at first),", () -> value(5, 9999, 0));
    Words.of(Words.TERMS, "SAW (how often a light; 0 to 9999; 0 at first).",
        () -> value(6, 9999, 0));
    sight();
    speed();
  }

  private static void sight() {
    Words.of(Words.TERMS, "SEES (a light that is shown): SHIP: each.", ShipTermsEdges::shipSees);
    Words.of(Words.TERMS, "TUG: one no more than 8 CELLS from it.", ShipTermsEdges::tugSees);
    Words.of(Words.TERMS, "PILOT: as a TUG, or if it is AT an even CELL.",
        ShipTermsEdges::pilotSees);
    Words.of(Words.TERMS, "LINER: each, on even TICKS.", ShipTermsEdges::linerSees);
    Words.of(Words.TERMS, "YACHT: as a LINER, or if its SPEED is 1 or less.",
        ShipTermsEdges::yachtSees);
    Words.of(Words.TERMS, "RACER: THE SECOND alone.", ShipTermsEdges::racerSees);
    Words.of(Words.TERMS, "GHOST: each that isn't shown (none that is).",
        ShipTermsEdges::ghostSees);
  }

  private static void speed() {
    Words.of(Words.TERMS, "GOES (CELLS in a TICK): SHIP: SPEED.", ShipTermsEdges::shipGoes);
    Words.of(Words.TERMS, "TUG: 1, if SPEED is above 0, else 0.", ShipTermsEdges::tugGoes);
    Words.of(Words.TERMS, "PILOT: twice a TUG.", ShipTermsEdges::pilotGoes);
    Words.of(Words.TERMS, "LINER: as a SHIP, and 1.", ShipTermsEdges::linerGoes);
    Words.of(Words.TERMS, "YACHT: as a LINER, less 1, if TICK is odd.", ShipTermsEdges::yachtGoes);
    Words.of(Words.TERMS, "RACER: as a YACHT, and 2.", ShipTermsEdges::racerGoes);
    Words.of(Words.TERMS, "GHOST: as a SHIP.", ShipTermsEdges::ghostGoes);
  }

  private static void cells() {
    Due.range("ship(0, ..)", 0, 23, TwinLights::new, (x, v) -> x.ship(0, v));
    TwinLights x = Due.told("book 0;tug at 0;tug at 23;tug at 11");
    Due.each("light of both", x, 8, 1, 2, 0);
    Due.is("who(0)", x.who(0), 0b001);
    Due.is("who(23)", x.who(23), 0b010);
  }

  private static void eightShips() {
    TwinLights x = new TwinLights();
    Due.is("count(1) of none", x.count(1), 0);
    for (int i = 0; i < 8; i++) {
      Due.is("ship(0, 3)", x.ship(0, 3), i);
      Due.is("count(1)", x.count(1), i + 1);
    }
    Due.is("the ninth", x.ship(0, 3), Due.FULL);
    Due.is("count(1)", x.count(1), 8);
    Due.is("of(7, 1)", x.of(7, 1), 3);
    Due.is("of(8, 1)", x.of(8, 1), Due.BEYOND);
  }

  private static void kindsUnderKinds() {
    Due.range("ship(.., 5)", 0, 6, TwinLights::new, (x, v) -> x.ship(v, 5));
    // Row: the kind; 1: as this one it can be had.
    int[][] under = {
      {1, 0, 0, 0, 0, 0, 0},
      {1, 1, 0, 0, 0, 0, 0},
      {1, 0, 1, 0, 0, 0, 0},
      {1, 0, 1, 1, 0, 0, 0},
      {1, 0, 1, 1, 1, 0, 0},
      {1, 0, 0, 0, 0, 1, 0},
      {1, 1, 0, 0, 0, 0, 1},
    };
    for (int kind = 0; kind <= 6; kind++) {
      TwinLights x = new TwinLights();
      x.ship(kind, 5);
      Due.is("of(0, 0)", x.of(0, 0), kind);
      x.hold(0, 0);
      for (int as = 0; as <= 6; as++) {
        Due.is("kind " + kind + " as " + as, x.as(0, as), under[kind][as] == 1 ? 0 : Due.KIND);
      }
    }
  }

  private static void atEachCell() {
    for (int cell = 0; cell <= 23; cell++) {
      TwinLights x = new TwinLights();
      x.ship(0, cell);
      Due.is("of(0, 1)", x.of(0, 1), cell);
      Due.is("who(" + cell + ")", x.who(cell), 1);
      Due.is("now(4)", x.now(4), 1 << cell);
    }
  }

  private static void ways() {
    value(2, 1, 1);
    TwinLights x = Due.told("pattern 0;ship at 7;ship at 7 back");
    Due.each("nothing", x, 2, 1, 0);
    x.go(1);
    Due.each("a tick in the dark", x, 1, 8, 6);
  }

  /** A value of a ship: what it is at first, and from 0 to what it may be. */
  private static void value(int what, int most, int first) {
    TwinLights x = Due.told("tug");
    Due.is("of(0, " + what + ")", x.of(0, what), first);
    for (int v : new int[] {most, 0}) {
      x.change(0, what, v);
      Due.is("of(0, " + what + ")", x.of(0, what), v);
    }
    Due.range("change(0, " + what + ", ..)", 0, most, () -> Due.told("tug"),
        (y, v) -> y.change(0, what, v));
  }

  /**
   * What a ship sees at a cell with a speed, on a tick on which these lights are shown: asked
   * first, then counted when the tick has gone by.
   */
  private static void sees(int due, int kind, int cell, int speed, int lights, int tick) {
    TwinLights x = new TwinLights();
    x.ship(kind, cell);
    x.change(0, 3, speed);
    x.change(0, 4, 1);
    if (tick > 0) {
      x.go(tick);
    }
    x.change(0, 4, 0);
    x.set(0, (lights & 1) * 4095);
    x.set(1, 1);
    x.set(3, lights >> 1);
    String call = "kind " + kind + " at " + cell + ", speed " + speed + ", lights " + lights
        + ", tick " + tick;
    Due.is(call + " would see", x.of(0, 8), due);
    x.go(1);
    Due.is(call + " saw", x.of(0, 6), new int[] {0, 1, 1, 2}[due]);
  }

  private static void shipSees() {
    for (int lights = 0; lights <= 3; lights++) {
      for (int cell : new int[] {0, 1, 8, 9, 11, 14, 15, 22, 23}) {
        sees(lights, SHIP, cell, 5, lights, 0);
        sees(lights, SHIP, cell, 0, lights, 1);
      }
    }
  }

  private static void tugSees() {
    for (int cell = 0; cell <= 23; cell++) {
      int near = cell <= 8 ? 1 : cell >= 15 ? 2 : 0;
      for (int lights = 0; lights <= 3; lights++) {
        sees(near & lights, TUG, cell, 1, lights, cell % 2);
      }
    }
    // The last cells that are near enough, and the first that aren't.
    sees(1, TUG, 8, 1, 3, 0);
    sees(0, TUG, 9, 1, 3, 0);
    sees(2, TUG, 15, 1, 3, 0);
    sees(0, TUG, 14, 1, 3, 0);
  }

  private static void pilotSees() {
    int[] due = {3, 1, 3, 1, 3, 1, 3, 1, 3, 0, 3, 0, 3, 0, 3, 2, 3, 2, 3, 2, 3, 2, 3, 2};
    for (int cell = 0; cell <= 23; cell++) {
      for (int lights = 0; lights <= 3; lights++) {
        sees(due[cell] & lights, PILOT, cell, 1, lights, cell / 2 % 2);
      }
    }
  }

  private static void linerSees() {
    for (int lights = 0; lights <= 3; lights++) {
      for (int tick : new int[] {0, 2, 12, 60}) {
        sees(lights, LINER, 11, 0, lights, tick);
      }
      for (int tick : new int[] {1, 3, 11, 59}) {
        sees(0, LINER, 11, 0, lights, tick);
      }
    }
  }

  private static void yachtSees() {
    for (int lights = 0; lights <= 3; lights++) {
      for (int speed = 0; speed <= 5; speed++) {
        sees(lights, YACHT, 11, speed, lights, 0);
        sees(lights, YACHT, 11, speed, lights, 2);
        sees(speed <= 1 ? lights : 0, YACHT, 11, speed, lights, 1);
        sees(speed <= 1 ? lights : 0, YACHT, 11, speed, lights, 3);
      }
    }
  }

  private static void racerSees() {
    for (int tick = 0; tick <= 1; tick++) {
      for (int speed : new int[] {0, 5}) {
        sees(0, RACER, 11, speed, 0, tick);
        sees(0, RACER, 0, speed, 1, tick);
        sees(2, RACER, 11, speed, 2, tick);
        sees(2, RACER, 0, speed, 3, tick);
      }
    }
  }

  private static void ghostSees() {
    for (int tick = 0; tick <= 1; tick++) {
      sees(3, GHOST, 11, 1, 0, tick);
      sees(2, GHOST, 11, 1, 1, tick);
      sees(1, GHOST, 11, 1, 2, tick);
      sees(0, GHOST, 11, 1, 3, tick);
    }
  }

  /** How far a kind goes by SPEED 0 to 5, on an even tick and on an odd one. */
  private static void goes(int kind, int[] even, int[] odd) {
    for (int speed = 0; speed <= 5; speed++) {
      for (int tick = 0; tick <= 3; tick++) {
        TwinLights x = new TwinLights();
        // None sees both lights: a GHOST none of two, the others none in the dark.
        x.set(2, 0);
        x.set(0, kind == GHOST ? 4095 : 0);
        x.ship(kind, 1);
        x.change(0, 3, speed);
        x.change(0, 4, 1);
        if (tick > 0) {
          x.go(tick);
        }
        int due = tick % 2 == 0 ? even[speed] : odd[speed];
        String call = "kind " + kind + ", speed " + speed + ", tick " + tick;
        x.change(0, 4, 0);
        Due.is(call + " would go", x.of(0, 7), due);
        x.go(1);
        Due.is(call + " went from 1 to", x.of(0, 1), 1 + due);
      }
    }
  }

  private static void shipGoes() {
    goes(SHIP, new int[] {0, 1, 2, 3, 4, 5}, new int[] {0, 1, 2, 3, 4, 5});
  }

  private static void tugGoes() {
    goes(TUG, new int[] {0, 1, 1, 1, 1, 1}, new int[] {0, 1, 1, 1, 1, 1});
  }

  private static void pilotGoes() {
    goes(PILOT, new int[] {0, 2, 2, 2, 2, 2}, new int[] {0, 2, 2, 2, 2, 2});
  }

  private static void linerGoes() {
    goes(LINER, new int[] {1, 2, 3, 4, 5, 6}, new int[] {1, 2, 3, 4, 5, 6});
  }

  private static void yachtGoes() {
    goes(YACHT, new int[] {1, 2, 3, 4, 5, 6}, new int[] {0, 1, 2, 3, 4, 5});
  }

  private static void racerGoes() {
    goes(RACER, new int[] {3, 4, 5, 6, 7, 8}, new int[] {2, 3, 4, 5, 6, 7});
  }

  private static void ghostGoes() {
    goes(GHOST, new int[] {0, 1, 2, 3, 4, 5}, new int[] {0, 1, 2, 3, 4, 5});
  }
}
