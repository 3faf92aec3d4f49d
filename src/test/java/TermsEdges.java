/** The edges that the terms name, up to point 1: findings, and the two lights. */
final class TermsEdges {
  private static final int ALL_PAST = 16777215;

  private TermsEdges() {}

  static void all() {
    Words.of(Words.TERMS,
        "FINDINGS are answers below -1000000: LOW is -1000001; LOW BEYOND, LOW - 1 FULL, LOW "
            + "- 2 KIND, LOW - 3 NONE, LOW - 4 STATE, LOW - 5 MISSING, LOW - 6 SIZE (in longs, "
            + "too).",
        TermsEdges::findings);
    Words.of(Words.TERMS, "What seed() and count(6) tell, z, may be any int: that is no finding.",
        TermsEdges::anyIntIsNoFinding);
    Words.of(Words.TERMS,
        "Each act tells its findings in the order in which they are asked (that of its "
            + "words);",
        TermsEdges::findingsInOrder);
    Words.of(Words.TERMS, "one that answers a finding changes nothing but status().",
        TermsEdges::refusedOneUponAnother);
    Words.without(Words.TERMS, "Quotients are cut.");
    Words.of(Words.TERMS, "Sets are told as bits;", TermsEdges::setsAsBits);
    Words.of(Words.TERMS, "of several that would do the least number counts, where nothing else is"
        + " told.", TermsEdges::theLeastCounts);
    Words.of(Words.TERMS, "1. THE PATTERN: twelve bits (0 to 4095; 5 at first);",
        TermsEdges::patternOfTwelveBits);
    Words.of(Words.TERMS,
        "THE FIRST light shows on a TICK bit TICK modulo 12 of it (1: light).",
        TermsEdges::patternWrapsRound);
    Words.of(Words.TERMS, "THE PAST: twenty-four bits (0 to 16777215; 0 at first):",
        TermsEdges::pastOfTwentyFourBits);
    Words.of(Words.TERMS,
        "what THE FIRST showed, bit 0 the latest, each greater one a TICK before.",
        TermsEdges::pastBitByBit);
    Words.of(Words.TERMS, "LAG (0 to 23; 4 at first).", TermsEdges::lagFrom0To23);
    Words.of(Words.TERMS, "THE BOOK: open or not (1 or 0; 1 at first).", TermsEdges::bookIs1Or0);
    Words.of(Words.TERMS, "THE SECOND light shows bit LAG of THE PAST, if THE BOOK is open;",
        TermsEdges::secondByThePast);
    Words.of(Words.TERMS, "else what THE FIRST shows.", TermsEdges::secondByTheFirst);
  }

  private static void findings() {
    TwinLights x = Due.told("tug;ship;ship;ship;ship;ship;ship;ship");
    x.hold(0, 0);
    Due.is("BEYOND", x.light(6), -1000001);
    Due.is("BEYOND, a long", x.odds(18, 0), -1000001L);
    Due.is("FULL", x.ship(0, 0), -1000002);
    Due.is("KIND", x.as(0, 2), -1000003);
    Due.is("NONE", x.undo(), -1000004);
    Due.is("MISSING", x.judge(0), -1000006);
    Due.is("SIZE", x.sheet(0, 8, -1), -1000007);
    int[] counted = {2, 1, 1, 1, 0, 1, 1};
    for (int which = 0; which < counted.length; which++) {
      Due.is("status(" + which + ")", x.status(which), counted[which]);
    }
  }

  private static void anyIntIsNoFinding() {
    TwinLights x = new TwinLights();
    int was = 1;
    for (int v : new int[] {-1000000, -1000001, -1000002, -1000003, -1000004, -1000005, -1000006,
        -1000007, -1000008, Due.LEAST_INT, Due.GREATEST_INT, -1, 0}) {
      Due.is("seed(" + v + ")", x.seed(v), was);
      Due.is("count(6)", x.count(6), v);
      was = v;
    }
    for (int which = -1; which <= 6; which++) {
      Due.is("status(" + which + ")", x.status(which), 0);
    }
  }

  /** Each of these would earn several findings; the first that the words ask for is told. */
  private static void findingsInOrder() {
    Due.refused("ship(7, 0) of a full sea", Due.BEYOND, Due::eight, x -> x.ship(7, 0));
    Due.refused("feed(0, 5) to a full tape", Due.BEYOND, TermsEdges::fullTape, x -> x.feed(0, 5));
    Due.refused("as(0, 7) of nothing", Due.BEYOND, Due::eight, x -> x.as(0, 7));
    Due.refused("sheet(4, 8, -1)", Due.BEYOND, Due::eight, x -> x.sheet(4, 8, -1));
    Due.refused("sheet(0, 7, -1)", Due.BEYOND, Due::eight, x -> x.sheet(0, 7, -1));
    Due.refused("kinds(0, 8) of a missing sheet", Due.MISSING, Due::eight, x -> x.kinds(0, 8));
    Due.refused("kinds(4, 8)", Due.BEYOND, Due::eight, x -> x.kinds(4, 8));
    Due.refused("write(0, 40, 1) of a missing sheet", Due.MISSING, Due::eight,
        x -> x.write(0, 40, 1));
    Due.refused("copy(0, -1, 4, 0, 1)", Due.BEYOND, Due::eight, x -> x.copy(0, -1, 4, 0, 1));
    Due.refused("copy(0, -1, 1, 0, 1)", Due.MISSING, Due::eight, x -> x.copy(0, -1, 1, 0, 1));
  }

  private static TwinLights fullTape() {
    TwinLights x = new TwinLights();
    for (int i = 0; i < 30; i++) {
      x.feed(0x6c616720, 4);
    }
    return x;
  }

  /** One of every finding that can be had, one upon another, of an object that holds everything. */
  private static void refusedOneUponAnother() {
    TwinLights x = rich();
    x.ship(9, 0);
    x.as(3, 5);
    x.as(4, 0);
    x.sheet(0, 8, -1);
    x.sheet(0, 0, 41);
    x.write(0, 2, 5);
    x.copy(0, 0, 1, 0, 9);
    x.judge(3);
    x.hold(3, 2);
    x.set(3, ALL_PAST + 1);
    x.change(1, 5, 10000);
    x.nights(21);
    x.go(61);
    x.feed(0, 0);
    x.keepIn(0, 0);
    x.status(7);
    Due.is("status(-1)", x.status(-1), 16);
    Due.same("sixteen findings", Spent.learned(x), Spent.learned(rich()));
  }

  private static TwinLights rich() {
    TwinLights x = Due.told("pattern 1235;lag 2;ship at 4;liner at 9 back");
    x.go(5);
    x.change(0, 5, 3);
    x.hold(3, 1);
    Due.sheet(x, 0, 4, 9);
    x.sheet(1, 16, 3);
    x.image();
    x.seed(-5);
    x.go(2);
    Due.feed(x, "lag 7");
    return x;
  }

  private static void setsAsBits() {
    TwinLights x = Due.told("ship at 0;ship at 23;ship at 0;ship at 5 port;ship at 5;"
        + "ship at 9 port;ship at 9;ship at 0");
    Due.is("SHIPS 0, 2 and 7", x.who(0), 0b10000101);
    Due.is("SHIPS 3 and 5", x.now(3), 0b00101000);
    Due.is("CELLS 0, 5, 9 and 23", x.now(4), 0b100000000000001000100001);
    x.sheet(0, 8, 0);
    Due.is("LAGS 0 to 23", x.lags(0), 0b111111111111111111111111);
    Due.is("KINDS 0 to 6", x.kinds(0, 7), 0b1111111);
  }

  private static void theLeastCounts() {
    // In port none strands, whatever is chosen.
    TwinLights x = Due.told("pattern 7;lag 9;ship at 5 port;ship at 5 port");
    Due.is("lagFor()", x.lagFor(60), 0);
    Due.is("patternFor()", x.patternFor(12), 0);
    Due.is("kindFor()", x.kindFor(1, 60), 0);
    Due.is("start()", x.start(1, 60), 0);
    Due.sheet(x, 0, -1);
    Due.is("pattern()", x.pattern(0), 0);
    x.change(0, 4, 0);
    x.change(1, 4, 0);
    Due.is("now(5) of two at one cell", x.now(5), 0);
    TwinLights y = Due.told("pattern 0;ship at 5;ship at 22;ship at 22;ship at 22");
    Due.is("keepIn() of any two of three", y.keepIn(1, 1), 0b0110);
  }

  private static void patternOfTwelveBits() {
    Due.is("light(0)", new TwinLights().light(0), 5);
    Due.range("set(0, ..)", 0, 4095, TwinLights::new, (x, v) -> x.set(0, v));
    TwinLights x = new TwinLights();
    x.set(0, 4095);
    for (int tick = 0; tick < 13; tick++) {
      Due.is("light(4) of all twelve on " + tick, x.light(4), 1);
      x.go(1);
    }
  }

  private static void patternWrapsRound() {
    TwinLights first = Due.told("pattern 1");
    TwinLights last = Due.told("pattern 2048");
    for (int tick = 0; tick <= 36; tick++) {
      Due.is("bit 0 on " + tick, first.light(4), tick == 0 || tick == 12 || tick == 24 || tick == 36
          ? 1 : 0);
      Due.is("bit 11 on " + tick, last.light(4), tick == 11 || tick == 23 || tick == 35 ? 1 : 0);
      first.go(1);
      last.go(1);
    }
  }

  private static void pastOfTwentyFourBits() {
    Due.is("light(3)", new TwinLights().light(3), 0);
    Due.range("set(3, ..)", 0, ALL_PAST, TwinLights::new, (x, v) -> x.set(3, v));
    TwinLights x = Due.told("pattern 4095");
    x.go(23);
    Due.is("23 lights", x.light(3), 8388607);
    x.go(1);
    Due.is("24 lights", x.light(3), ALL_PAST);
    x.go(1);
    Due.is("25 lights", x.light(3), ALL_PAST);
  }

  private static void pastBitByBit() {
    TwinLights x = Due.told("pattern 1");
    for (int behind = 0; behind < 12; behind++) {
      x.go(1);
      Due.is("light on tick 0, behind " + behind + " dark ones", x.light(3), 1 << behind);
    }
    x.go(1);
    Due.is("light on ticks 0 and 12", x.light(3), 0b1000000000001);
    x.go(11);
    Due.is("light on ticks 0 and 12, 24 ticks on", x.light(3), 1 << 23 | 1 << 11);
    x.go(1);
    Due.is("light on ticks 12 and 24", x.light(3), 0b1000000000001);
  }

  private static void lagFrom0To23() {
    Due.is("light(1)", new TwinLights().light(1), 4);
    Due.range("set(1, ..)", 0, 23, TwinLights::new, (x, v) -> x.set(1, v));
    TwinLights x = Due.told("pattern 1;lag 0");
    Due.is("LAG 0 on the tick itself", x.light(5), 1);
    x.go(1);
    Due.is("LAG 0 a tick on", x.light(5), 0);
    x.set(0, 0);
    x.set(1, 23);
    for (int tick = 1; tick <= 25; tick++) {
      Due.is("LAG 23 of light on tick 0, on " + tick, x.light(5), tick == 23 ? 1 : 0);
      x.go(1);
    }
  }

  private static void bookIs1Or0() {
    Due.is("light(2)", new TwinLights().light(2), 1);
    Due.range("set(2, ..)", 0, 1, TwinLights::new, (x, v) -> x.set(2, v));
  }

  /** This tick's own bit has come to THE PAST when THE SECOND is shown. */
  private static void secondByThePast() {
    for (int lag = 0; lag <= 23; lag++) {
      TwinLights x = new TwinLights();
      x.set(1, lag);
      x.set(0, 0);
      x.set(3, lag == 0 ? ALL_PAST : 1 << (lag - 1));
      Due.is("light(5), that bit alone, LAG " + lag, x.light(5), lag == 0 ? 0 : 1);
      x.set(0, 1);
      x.set(3, lag == 0 ? 0 : ALL_PAST - (1 << (lag - 1)));
      Due.is("light(5), all bits but that, LAG " + lag, x.light(5), lag == 0 ? 1 : 0);
    }
    TwinLights y = new TwinLights();
    y.set(1, 23);
    y.set(0, 0);
    y.set(3, 1 << 23);
    Due.is("bit 23, which this tick loses", y.light(5), 0);
  }

  private static void secondByTheFirst() {
    for (int lag : new int[] {0, 1, 23}) {
      TwinLights x = Due.told("book 0;pattern 0");
      x.set(1, lag);
      x.set(3, ALL_PAST);
      Due.is("light(5) in the dark, LAG " + lag, x.light(5), 0);
      x.set(0, 1);
      x.set(3, 0);
      Due.is("light(5) in the light, LAG " + lag, x.light(5), 1);
      x.set(2, 1);
      Due.is("light(5) with the book open, LAG " + lag, x.light(5), lag == 0 ? 1 : 0);
    }
  }
}
