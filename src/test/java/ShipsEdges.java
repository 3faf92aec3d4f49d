/** The edges of promises 1 to 7: a new object, set, light, ship, of, change, who. */
final class ShipsEdges {
  private ShipsEdges() {}

  static void all() {
    Words.of(1, "All as at first;", ShipsEdges::asAtFirst);
    Words.of(1, "no SHIPS;", ShipsEdges::noShips);
    Words.of(1, "THE TAPE is empty,", ShipsEdges::tapeIsEmpty);
    Words.of(1, "no image is kept.", ShipsEdges::noImage);
    Words.of(2, "THE PATTERN (what 0), LAG (1), THE BOOK (2), THE PAST (3) becomes v: what it was.",
        ShipsEdges::setTellsWhatItWas);
    Words.of(2, "BEYOND.", ShipsEdges::setBeyond);
    Words.of(3, "Of the lights: what 0 THE PATTERN, 1 LAG, 2 THE BOOK, 3 THE PAST,",
        ShipsEdges::lightTells);
    Words.of(3, "4 what THE FIRST would show on this TICK, 5 what THE SECOND would.",
        ShipsEdges::lightWouldShow);
    Words.of(3, "BEYOND.",
        () -> Due.range("light", 0, 5, TwinLights::new, (x, v) -> x.light(v)));
    Words.of(4, "A new SHIP AT a CELL: its number.", ShipsEdges::numbersOfShips);
    Words.of(4, "BEYOND.", ShipsEdges::shipBeyond);
    Words.of(4, "FULL.", ShipsEdges::shipFull);
    Words.of(5,
        "Of a SHIP: what 0 KIND, 1 CELL, 2 WAY, 3 SPEED, 4 PORT, 5 STRANDED, 6 SAW, 7 GOES,",
        ShipsEdges::ofTells);
    Words.of(5,
        "8 which it would SEE on this TICK, as all is (0 neither, 1 THE FIRST, 2 THE SECOND, "
            + "3 both).",
        ShipsEdges::ofWouldSee);
    Words.of(5, "BEYOND.", ShipsEdges::ofBeyond);
    Words.of(6, "KIND (what 0), CELL (1), WAY (2), SPEED (3), PORT (4), STRANDED (5), SAW (6) of a"
        + " SHIP becomes v: what it was.", ShipsEdges::changeTellsWhatItWas);
    Words.of(6, "BEYOND.", ShipsEdges::changeBeyond);
    Words.of(7, "SHIPS AT a CELL (not in PORT), as a set.", ShipsEdges::whoIsAtACell);
    Words.of(7, "BEYOND.", () -> Due.range("who", 0, 23, Due::eight, (x, v) -> x.who(v)));
  }

  private static void asAtFirst() {
    TwinLights x = new TwinLights();
    int[] lights = {5, 4, 1, 0, 1, 0};
    for (int what = 0; what < lights.length; what++) {
      Due.is("light(" + what + ")", x.light(what), lights[what]);
    }
    Due.is("TICK", x.count(0), 0);
    Due.is("z", x.count(6), 1);
    Due.is("SPOTS", x.count(7), 0);
    for (int which = -1; which <= 6; which++) {
      Due.is("status(" + which + ")", x.status(which), 0);
    }
    for (int spot = 0; spot <= 9; spot++) {
      Due.is("as(" + spot + ", 0)", x.as(spot, 0), Due.MISSING);
    }
    for (int s = 0; s <= 3; s++) {
      Due.is("judge(" + s + ")", x.judge(s), Due.MISSING);
    }
  }

  private static void noShips() {
    TwinLights x = new TwinLights();
    int[] none = {0, 0, 0, 0, 0, -1, 0};
    for (int what = 0; what < none.length; what++) {
      Due.is("now(" + what + ")", x.now(what), none[what]);
    }
    for (int cell = 0; cell <= 23; cell++) {
      Due.is("who(" + cell + ")", x.who(cell), 0);
    }
    Due.is("count(1)", x.count(1), 0);
    Due.is("of(0, 0)", x.of(0, 0), Due.BEYOND);
    Due.is("lagFor(60)", x.lagFor(60), 0);
    Due.is("patternFor(12)", x.patternFor(12), 0);
    Due.is("keepIn(0, 20)", x.keepIn(0, 20), 0);
    Due.is("go(60)", x.go(60), 0);
    Due.is("nights(20)", x.nights(20), 0);
  }

  private static void tapeIsEmpty() {
    TwinLights x = new TwinLights();
    Due.is("count(5)", x.count(5), 0);
    Due.is("wipe()", x.wipe(), 0);
    Due.is("text()", x.text(), -1);
  }

  private static void noImage() {
    Due.is("tear()", new TwinLights().tear(), 0);
    Due.refused("undo()", Due.NONE, TwinLights::new, x -> x.undo());
  }

  private static void setTellsWhatItWas() {
    int[] first = {5, 4, 1, 0};
    int[] most = {4095, 23, 1, 16777215};
    TwinLights x = new TwinLights();
    for (int what = 0; what <= 3; what++) {
      Due.is("set(" + what + ", most)", x.set(what, most[what]), first[what]);
      Due.is("set(" + what + ", 0)", x.set(what, 0), most[what]);
      Due.is("set(" + what + ", most)", x.set(what, most[what]), 0);
      Due.is("light(" + what + ")", x.light(what), most[what]);
    }
  }

  private static void setBeyond() {
    Due.range("set(.., 0)", 0, 3, TwinLights::new, (x, v) -> x.set(v, 0));
    int[] most = {4095, 23, 1, 16777215};
    for (int what = 0; what <= 3; what++) {
      int one = what;
      Due.range("set(" + what + ", ..)", 0, most[what], TwinLights::new, (x, v) -> x.set(one, v));
    }
    // What one light may be is not what another may be.
    Due.beyond("set(2, ..)", TwinLights::new, (x, v) -> x.set(2, v), 23, 24, 4095);
    Due.beyond("set(1, ..)", TwinLights::new, (x, v) -> x.set(1, v), 4095, 16777215);
  }

  private static void lightTells() {
    TwinLights x = new TwinLights();
    int[] v = {4094, 22, 0, 16777214};
    for (int what = 0; what <= 3; what++) {
      x.set(what, v[what]);
    }
    for (int what = 0; what <= 3; what++) {
      Due.is("light(" + what + ")", x.light(what), v[what]);
    }
  }

  private static void lightWouldShow() {
    TwinLights x = Due.told("pattern 1;lag 1");
    Due.is("light(4)", x.light(4), 1);
    Due.is("light(5)", x.light(5), 0);
    Due.is("light(3), which has not gone on", x.light(3), 0);
    Due.is("count(0), which has not gone on", x.count(0), 0);
    x.go(1);
    Due.is("light(4)", x.light(4), 0);
    Due.is("light(5)", x.light(5), 1);
  }

  private static void numbersOfShips() {
    TwinLights x = new TwinLights();
    for (int i = 0; i < 8; i++) {
      int kind = i % 7;
      int cell = i == 7 ? 23 : i * 3;
      Due.is("ship(" + kind + ", " + cell + ")", x.ship(kind, cell), i);
      int[] due = {kind, cell, 1, 1, 0, 0, 0};
      for (int what = 0; what < due.length; what++) {
        Due.is("of(" + i + ", " + what + ")", x.of(i, what), due[what]);
      }
    }
    // A number that another ship had before it was undone tells nothing of that one.
    TwinLights y = new TwinLights();
    y.image();
    y.ship(5, 5);
    int[] other = {6, 6, 0, 0, 1, 9, 9};
    for (int what = 0; what < other.length; what++) {
      y.change(0, what, other[what]);
    }
    y.undo();
    Due.is("ship(0, 3) behind undo()", y.ship(0, 3), 0);
    int[] fresh = {0, 3, 1, 1, 0, 0, 0};
    for (int what = 0; what < fresh.length; what++) {
      Due.is("of(0, " + what + ") of a new one", y.of(0, what), fresh[what]);
    }
  }

  private static void shipBeyond() {
    Due.range("ship(.., 0)", 0, 6, TwinLights::new, (x, v) -> x.ship(v, 0));
    Due.range("ship(6, ..)", 0, 23, TwinLights::new, (x, v) -> x.ship(6, v));
    Due.beyond("ship(.., 0) of a full sea", Due::eight, (x, v) -> x.ship(v, 0), -1, 7);
    Due.beyond("ship(0, ..) of a full sea", Due::eight, (x, v) -> x.ship(0, v), -1, 24);
  }

  private static void shipFull() {
    Due.refused("ship(0, 0)", Due.FULL, Due::eight, x -> x.ship(0, 0));
    Due.refused("ship(6, 23)", Due.FULL, Due::eight, x -> x.ship(6, 23));
    TwinLights x = Due.told("ship;ship;ship;ship;ship;ship;ship");
    Due.is("ship(0, 0), the eighth", x.ship(0, 0), 7);
  }

  private static void ofTells() {
    TwinLights x = Due.told("ship;pilot at 23 back speed 5 port");
    x.change(1, 5, 9999);
    x.change(1, 6, 9998);
    int[] due = {6, 23, 0, 5, 1, 9999, 9998, 2};
    for (int what = 0; what < due.length; what++) {
      Due.is("of(1, " + what + ")", x.of(1, what), due[what]);
    }
  }

  private static void ofWouldSee() {
    for (int lights = 0; lights <= 3; lights++) {
      TwinLights x = Due.told("ship;ghost");
      x.set(0, lights & 1);
      x.set(1, 1);
      x.set(3, lights >> 1);
      Due.is("of(0, 8), lights " + lights, x.of(0, 8), lights);
      Due.is("of(1, 8), lights " + lights, x.of(1, 8), 3 - lights);
      Due.is("of(0, 6), which has not gone on", x.of(0, 6), 0);
    }
  }

  private static void ofBeyond() {
    Due.range("of(.., 0) of two", 0, 1, ShipsEdges::two, (x, v) -> x.of(v, 0));
    Due.range("of(.., 8) of eight", 0, 7, Due::eight, (x, v) -> x.of(v, 8));
    Due.range("of(1, ..)", 0, 8, ShipsEdges::two, (x, v) -> x.of(1, v));
    Due.beyond("of(.., 0) of none", TwinLights::new, (x, v) -> x.of(v, 0), -1, 0, 1);
  }

  private static TwinLights two() {
    return Due.told("ship at 3;tug");
  }

  private static void changeTellsWhatItWas() {
    int[] first = {1, 11, 1, 1, 0, 0, 0};
    int[] most = {6, 23, 1, 5, 1, 9999, 9999};
    TwinLights x = two();
    for (int what = 0; what <= 6; what++) {
      Due.is("change(1, " + what + ", most)", x.change(1, what, most[what]), first[what]);
      Due.is("change(1, " + what + ", 0)", x.change(1, what, 0), most[what]);
      Due.is("change(1, " + what + ", most)", x.change(1, what, most[what]), 0);
    }
    int[] other = {0, 3, 1, 1, 0, 0, 0};
    for (int what = 0; what <= 6; what++) {
      Due.is("of(1, " + what + ")", x.of(1, what), most[what]);
      Due.is("of(0, " + what + "), the other", x.of(0, what), other[what]);
    }
  }

  private static void changeBeyond() {
    Due.range("change(.., 0, 0) of two", 0, 1, ShipsEdges::two, (x, v) -> x.change(v, 0, 0));
    Due.range("change(.., 6, 0) of eight", 0, 7, Due::eight, (x, v) -> x.change(v, 6, 0));
    Due.beyond("change(.., 0, 0) of none", TwinLights::new, (x, v) -> x.change(v, 0, 0), -1, 0, 1);
    Due.range("change(1, .., 0)", 0, 6, ShipsEdges::two, (x, v) -> x.change(1, v, 0));
    // What of() tells, too, but nothing can become.
    Due.beyond("change(1, .., 1)", ShipsEdges::two, (x, v) -> x.change(1, v, 1), 7, 8);
    int[] most = {6, 23, 1, 5, 1, 9999, 9999};
    for (int what = 0; what <= 6; what++) {
      int one = what;
      Due.range("change(1, " + what + ", ..)", 0, most[what], ShipsEdges::two,
          (x, v) -> x.change(1, one, v));
    }
  }

  private static void whoIsAtACell() {
    TwinLights x = Due.told("ship at 0;ship at 0;ship at 0;ship at 0;ship at 0;ship at 0;ship at 0;"
        + "ship at 0");
    Due.is("who(0) of eight", x.who(0), 255);
    Due.is("who(1)", x.who(1), 0);
    x.change(0, 4, 1);
    x.change(7, 4, 1);
    Due.is("who(0) of six at sea", x.who(0), 126);
    x.change(0, 4, 0);
    x.change(7, 1, 23);
    x.change(7, 4, 0);
    Due.is("who(0)", x.who(0), 127);
    Due.is("who(23)", x.who(23), 128);
    Due.is("who(22)", x.who(22), 0);
  }
}
