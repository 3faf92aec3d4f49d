/** Promises 29 and 31: feed, text. */
public final class TextsTest {
  public static void main(String[] args) {
    feeding();
    textsThatStand();
    laterItemsCount();
    faults();
    faultOfTheNinth();
    nothingChangesWithAFault();
    Due.end();
  }

  private static void feeding() {
    TwinLights x = new TwinLights();
    Due.is("feed(.., 4)", x.feed(0x6c616720, 4), 4);
    // Only the lowest bytes count, the highest of these first.
    Due.is("feed(.., 2)", x.feed(0x7f7f3137, 2), 6);
    Due.is("count(5)", x.count(5), 6);
    Due.is("text() of lag 17", x.text(), 1);
    Due.is("light(1)", x.light(1), 17);
    Due.is("count(5)", x.count(5), 0);
    Due.is("feed(.., 3)", x.feed(0xff6c6167, 3), 3);
    Due.is("feed(.., 1)", x.feed(-256 | '9', 1), 4);
    Due.is("text() of lag9", x.text(), 1);
    Due.is("light(1)", x.light(1), 9);
  }

  private static void textsThatStand() {
    stands("ship", 1, "0 11 1 1 0");
    stands("tug at 0", 1, "1 0 1 1 0");
    stands("liner at 23 back speed 0 port", 1, "2 23 0 0 1");
    stands("yacht back", 1, "3 11 0 1 0");
    stands("racer speed 5", 1, "4 11 1 5 0");
    stands("ghost port", 1, "5 11 1 1 1");
    stands("pilot at 7 speed 2", 1, "6 7 1 2 0");
    stands("tug back port", 1, "1 11 0 1 1");
    stands("tug at 3 port", 1, "1 3 1 1 1");
    stands("  tug   at3back  speed4port ", 1, "1 3 0 4 1");
    stands("tug at0000000000000000000000000007", 1, "1 7 1 1 0");
    stands("ship;tug at 5;ship back", 3, "0 11 1 1 0|1 5 1 1 0|0 11 0 1 0");
    stands("lag 3 ; ship;book 0", 3, "0 11 1 1 0");
    stands("pattern 0;lag 0;book 0", 3, "");
    TwinLights x = new TwinLights();
    Due.is("text()", Due.read(x, "pattern 4095;lag 23;book 0"), 3);
    Due.is("light(0)", x.light(0), 4095);
    Due.is("light(1)", x.light(1), 23);
    Due.is("light(2)", x.light(2), 0);
    Due.is("text()", Due.read(x, "book1;lag 0;pattern0004094"), 3);
    Due.is("light(0)", x.light(0), 4094);
    Due.is("light(1)", x.light(1), 0);
    Due.is("light(2)", x.light(2), 1);
  }

  /** KIND, CELL, WAY, SPEED, PORT of each ship that a text makes. */
  private static void stands(String text, int items, String ships) {
    TwinLights x = new TwinLights();
    Due.is("text() of " + text, Due.read(x, text), items);
    StringBuilder told = new StringBuilder();
    for (int ship = 0; ship < x.count(1); ship++) {
      told.append(ship > 0 ? "|" : "");
      for (int what = 0; what <= 4; what++) {
        told.append(what > 0 ? " " : "").append(x.of(ship, what));
      }
      Due.is("of(" + ship + ", 5)", x.of(ship, 5), 0);
      Due.is("of(" + ship + ", 6)", x.of(ship, 6), 0);
    }
    Due.same("text() of " + text, told.toString(), ships);
    Due.is("count(5)", x.count(5), 0);
    Due.is("status(-1)", x.status(-1), 0);
  }

  private static void laterItemsCount() {
    TwinLights x = Due.told("tug");
    Due.is("text()", Due.read(x, "lag 3;lag 5;ghost at 2;pattern 1;pattern 2;lag 6"), 6);
    Due.is("light(1)", x.light(1), 6);
    Due.is("light(0)", x.light(0), 2);
    Due.is("of(1, 0), behind the one there was", x.of(1, 0), 5);
    Due.is("count(1)", x.count(1), 2);
  }

  private static void faults() {
    fault("", 0);
    fault("   ", 3);
    fault(";", 0);
    fault("ship;", 5);
    fault("ship; ", 6);
    fault("ship;;ship", 5);
    fault(" ;ship", 1);
    fault("boat", 0);
    fault("ships", 0);
    fault("shi", 0);
    fault("shipz", 0);
    fault("zship", 0);
    fault("shipa", 0);
    fault("whip", 0);
    fault("rug", 0);
    fault("miner", 0);
    fault("tag 3", 0);
    fault("look 1", 0);
    fault("ship it 3", 5);
    fault("ship sack", 5);
    fault("ship fort", 5);
    fault("Ship", 0);
    fault("sHip", 0);
    fault("s", 0);
    fault("at 3", 0);
    fault("back", 0);
    fault("speed 3", 0);
    fault("port", 0);
    fault("7", 0);
    fault("ship 7", 5);
    fault("ship7", 4);
    fault("ship ship", 5);
    fault("ship at", 7);
    fault("ship at ", 8);
    fault("ship at;", 7);
    fault("ship at back", 8);
    fault("ship at 24", 8);
    fault("ship at 9999", 8);
    fault("ship at 10000", 8);
    fault("ship at 4294967296", 8);
    fault("ship at 18446744073709551617", 8);
    fault("ship at 2 3", 10);
    fault("ship at 2 at 3", 10);
    fault("ship back at 3", 10);
    fault("ship back back", 10);
    fault("ship speed", 10);
    fault("ship speed 6", 11);
    fault("ship speed x", 11);
    fault("ship speed 3 back", 13);
    fault("ship speed 3 at 4", 13);
    fault("ship speed 3 speed 3", 13);
    fault("ship port port", 10);
    fault("ship port speed 1", 10);
    fault("ship port 1", 10);
    fault("ship backport", 5);
    fault("ship lag 3", 5);
    fault("ship,tug", 4);
    fault("ship at -3", 8);
    fault("ship at 3.", 9);
    fault("ship\ttug", 4);
    fault("ship\n", 4);
    fault("\u00e9", 0);
    fault("ship \u00ff", 5);
    fault("ship \u0000", 5);
    fault("`", 0);
    fault("{", 0);
    fault("ship/", 4);
    fault("ship:", 4);
    fault("pattern", 7);
    fault("pattern 4096", 8);
    fault("pattern 10005", 8);
    fault("pattern 5 5", 10);
    fault("pattern x", 8);
    fault("pattern;", 7);
    fault("lag 24", 4);
    fault("lag", 3);
    fault("lag 3 back", 6);
    fault("book 2", 5);
    fault("book 1;", 7);
    fault("book 1;lag 24;boat", 11);
    fault("past 3", 0);
    fault("tick 3", 0);
  }

  private static void fault(String text, int place) {
    TwinLights x = Due.told("tug at 3");
    String before = Due.all(x);
    Due.is("text() of " + text, Due.read(x, text), -1 - place);
    Due.same("text() of " + text, Due.all(x), before);
    Due.is("status(-1): a fault is no finding", x.status(-1), 0);
  }

  private static void faultOfTheNinth() {
    TwinLights x = new TwinLights();
    Due.is("nine", Due.read(x, "ship;ship;ship;ship;ship;ship;ship;ship;ship"), -41);
    Due.is("count(1)", x.count(1), 0);
    Due.is("eight", Due.read(x, "ship;ship;ship;ship;ship;ship;ship;lag 2;ship"), 9);
    Due.is("count(1)", x.count(1), 8);
    Due.is("one more", Due.read(x, "lag 3; tug at 99"), -8);
    Due.is("light(1)", x.light(1), 2);
    Due.is("a fault before it", Due.read(x, "lag 24;tug"), -5);
    Due.is("none", Due.read(x, "lag 3"), 1);
    TwinLights y = Due.told("ship;ship;ship;ship;ship;ship;ship");
    Due.is("the 8th and the 9th", Due.read(y, "ship at 3;boat"), -11);
    Due.is("the 8th and the 9th", Due.read(y, "ship at 3;tug"), -11);
    Due.is("the 8th", Due.read(y, "ship at 3"), 1);
    Due.is("status(-1)", y.status(-1), 0);
  }

  private static void nothingChangesWithAFault() {
    TwinLights x = Due.told("tug at 3;pattern 77");
    x.go(5);
    x.hold(3, 0);
    x.image();
    String before = Due.all(x);
    Due.is("text()", Due.read(x, "pattern 9;lag 9;book 0;ship;ghost;boat"), -35);
    Due.same("text()", Due.all(x), before);
    Due.is("as(3, 1)", x.as(3, 1), 0);
    x.ship(2, 5);
    Due.is("of(1, 0)", x.of(1, 0), 2);
    Due.is("of(1, 1)", x.of(1, 1), 5);
    Due.is("undo()", x.undo(), 5);
    Due.same("undo()", Due.all(x), before);
  }
}
