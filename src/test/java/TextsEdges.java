/** The edges of promises 29 to 31: feed, wipe, text. */
final class TextsEdges {
  private TextsEdges() {}

  static void all() {
    Words.of(29,
        "THE TAPE gets the n lowest bytes of a number behind it,",
        TextsEdges::lowestBytes);
    Words.of(29, "the highest of these first", TextsEdges::highestFirst);
    Words.of(29, "(n 1 to 4):", TextsEdges::from1To4);
    Words.of(29, "how many it has.", TextsEdges::howManyItHas);
    Words.of(29, "BEYOND: n.", TextsEdges::feedBeyond);
    Words.of(29, "FULL.", TextsEdges::feedFull);
    Words.of(30, "THE TAPE is empty: how many it had.", TextsEdges::wiped);
    Words.of(31, "THE TAPE is a TEXT, and empty then;", TextsEdges::emptyThen);
    Words.of(31, "all that it tells is so, item by item:", TextsEdges::itemByItem);
    Words.of(31, "how many ITEMS.", TextsEdges::howManyItems);
    Words.of(31, "With a FAULT: -1 less the FAULT", TextsEdges::lessTheFault);
    Words.of(31, "(nothing changes but that THE TAPE is empty; no finding).",
        TextsEdges::nothingChangesWithAFault);
  }

  private static void lowestBytes() {
    // Above the bytes that are meant there stand others, or a sign.
    int[][] rows = {{0xffffff39, 1}, {0x7f7f7f39, 1}, {Due.LEAST_INT | 0x39, 1}, {0x80003139, 2},
        {0x7fff3139, 2}, {0xff303139, 3}, {0x7f303139, 3}};
    for (int[] row : rows) {
      TwinLights x = new TwinLights();
      Due.feed(x, "lag");
      Due.is("feed()", x.feed(row[0], row[1]), 3 + row[1]);
      Due.is("text()", x.text(), 1);
      Due.is("light(1)", x.light(1), row[1] == 1 ? 9 : 19);
    }
    // The highest byte is a byte like the others, with no sign: the one of 233 begins no token.
    TwinLights y = new TwinLights();
    Due.is("feed() of four", y.feed(0xe96c6167, 4), 4);
    Due.is("text()", y.text(), -1);
    Due.is("feed() of four", y.feed(0x206c6167, 4), 4);
    Due.is("feed() of two", y.feed(0x2035, 2), 6);
    Due.is("text()", y.text(), 1);
    Due.is("light(1)", y.light(1), 5);
  }

  private static void highestFirst() {
    TwinLights x = new TwinLights();
    x.feed(0x6c616731, 4);
    x.feed(0x363b6c, 3);
    x.feed(0x6167, 2);
    x.feed(0x38, 1);
    Due.is("text() of lag16;lag8", x.text(), 2);
    Due.is("light(1)", x.light(1), 8);
    x.feed(0x6c616732, 4);
    x.feed(0x31, 1);
    Due.is("text() of lag21", x.text(), 1);
    Due.is("light(1)", x.light(1), 21);
  }

  private static void from1To4() {
    for (int n = 1; n <= 4; n++) {
      TwinLights x = new TwinLights();
      Due.is("feed(.., " + n + ")", x.feed(0x20202020, n), n);
      Due.is("count(5)", x.count(5), n);
      Due.is("text() of so many blanks", x.text(), -1 - n);
    }
  }

  private static void howManyItHas() {
    TwinLights x = new TwinLights();
    int due = 0;
    for (int i = 0; i < 12; i++) {
      for (int n = 1; n <= 4; n++) {
        due += n;
        Due.is("feed(.., " + n + ")", x.feed(0, n), due);
      }
    }
    Due.is("count(5)", x.count(5), 120);
  }

  /** A tape of so many bytes that end as a text does. */
  private static TwinLights taped(int bytes) {
    TwinLights x = Due.told("ship at 3");
    Due.feed(x, " ".repeat(bytes - Math.min(5, bytes)) + "lag 7".substring(5 - Math.min(5, bytes)));
    return x;
  }

  private static void feedBeyond() {
    Due.range("feed(.., n)", 1, 4, () -> taped(20), (x, v) -> x.feed(0x20202020, v));
    Due.range("feed(.., n) to an empty tape", 1, 4, TwinLights::new, (x, v) -> x.feed(-1, v));
    Due.beyond("feed(.., n) to a full tape", () -> taped(120), (x, v) -> x.feed(0, v), -1, 0, 5);
  }

  private static void feedFull() {
    for (int n = 1; n <= 4; n++) {
      int bytes = n;
      Due.is("feed(.., " + n + ") up to 120", taped(120 - n).feed(0x20202020, n), 120);
      for (int room = 0; room < n; room++) {
        int left = room;
        Due.refused("feed(.., " + n + ") where there is room for " + room, Due.FULL,
            () -> taped(120 - left), x -> x.feed(0x20202020, bytes));
      }
    }
    TwinLights x = taped(120);
    x.wipe();
    Due.is("feed() behind wipe()", x.feed(0, 4), 4);
    TwinLights y = taped(120);
    Due.is("text()", y.text(), 1);
    Due.is("feed() behind text()", y.feed(0, 4), 4);
  }

  private static void wiped() {
    for (int bytes : new int[] {0, 1, 119, 120}) {
      TwinLights x = taped(bytes);
      Due.is("wipe()", x.wipe(), bytes);
      Due.is("count(5)", x.count(5), 0);
      Due.is("wipe() again", x.wipe(), 0);
      Due.is("text() of nothing", x.text(), -1);
      Due.is("status(-1)", x.status(-1), 0);
      Due.feed(x, "lag 3");
      Due.is("text() of what came then", x.text(), 1);
      Due.is("light(1)", x.light(1), 3);
    }
  }

  private static void emptyThen() {
    TwinLights x = taped(120);
    Due.is("text()", x.text(), 1);
    Due.is("count(5)", x.count(5), 0);
    Due.is("text() again, of nothing", x.text(), -1);
    Due.is("count(5)", x.count(5), 0);
    Due.is("text() of a shorter one", Due.read(x, "lag"), -4);
    Due.is("wipe()", x.wipe(), 0);
  }

  private static void itemByItem() {
    TwinLights x = new TwinLights();
    Due.is("text()", Due.read(x, "lag 3;tug;lag 5;pattern 1;ship at 2;pattern 2;book 0;book 1"), 8);
    Due.is("light(0)", x.light(0), 2);
    Due.is("light(1)", x.light(1), 5);
    Due.is("light(2)", x.light(2), 1);
    Due.each("the text", x, 0, 1, 0);
    Due.each("the text", x, 1, 11, 2);
    Due.is("light(3)", x.light(3), 0);
    Due.is("count(0)", x.count(0), 0);
  }

  private static void howManyItems() {
    for (int items = 1; items <= 24; items++) {
      TwinLights x = new TwinLights();
      Due.is("text() of " + items, Due.read(x, "lag7" + ";lag8".repeat(items - 1)), items);
      Due.is("light(1)", x.light(1), items == 1 ? 7 : 8);
    }
  }

  private static void lessTheFault() {
    TwinLights x = new TwinLights();
    Due.is("text() of nothing: the least fault", x.text(), -1);
    Due.is("text() of one byte that can't stand", Due.read(x, "#"), -1);
    Due.is("text() of one blank", Due.read(x, " "), -2);
    Due.is("text(), a fault at the last byte", Due.read(x, " ".repeat(119) + "#"), -120);
    Due.is("text() of 120 blanks: the greatest fault", Due.read(x, " ".repeat(120)), -121);
  }

  private static TwinLights rich() {
    TwinLights x = Due.told("pattern 77;tug at 3");
    x.go(5);
    x.hold(3, 0);
    Due.sheet(x, 1, 4, 5);
    x.image();
    x.go(2);
    return x;
  }

  private static void nothingChangesWithAFault() {
    String[] texts = {"", "pattern 9;lag 9;book 0;ship;ghost at 4 back speed 5 port;boat",
        "lag 24", "lag 1;lag 2;", "ship;ship;ship;ship;ship;ship;ship;ship", " ".repeat(120)};
    for (String text : texts) {
      TwinLights x = rich();
      Due.feed(x, text);
      Due.is("count(5)", x.count(5), text.length());
      Due.is("text() has a fault", x.text() < 0 ? 1 : 0, 1);
      Due.is("count(5)", x.count(5), 0);
      for (int which = -1; which <= 6; which++) {
        Due.is("status(" + which + ")", x.status(which), 0);
      }
      // What the fault cut off is not in the ships that come, either.
      x.ship(2, 5);
      TwinLights same = rich();
      same.ship(2, 5);
      Due.same("text() of " + text, Spent.learned(x), Spent.learned(same));
    }
  }
}
