/** The edges of promises 39 to 43: image, undo, tear, count, status. */
final class ImagesEdges {
  private ImagesEdges() {}

  static void all() {
    Words.of(39, "All but THE TAPE and SHEETS is kept: 1.", ImagesEdges::allIsKept);
    Words.of(39, "THE TAPE and SHEETS", ImagesEdges::tapeAndSheetsAreNot);
    Words.of(40, "It becomes what was kept latest", ImagesEdges::theLatest);
    Words.of(40, "(which stays):", ImagesEdges::whichStays);
    Words.of(40, "TICK.", ImagesEdges::undoTellsTick);
    Words.of(40, "NONE: nothing is kept.", ImagesEdges::undoNone);
    Words.of(41, "Nothing is kept: 1 if something was, else 0.", ImagesEdges::torn);
    Words.of(42, "0 TICK, 1 SHIPS, 2 STRANDED of all together, 3 SAW of all together, 4 THE PAST, 5"
        + " bytes of THE TAPE, 6 z, 7 SPOTS that hold something.", ImagesEdges::counts);
    Words.of(42, "BEYOND: another what.",
        () -> Due.range("count", 0, 7, ImagesEdges::rich, (x, v) -> x.count(v)));
    Words.of(43, "How many acts answered a finding ever", ImagesEdges::everyFinding);
    Words.of(43, "(undo() takes none back):", ImagesEdges::noneIsTakenBack);
    Words.of(43, "which -1: all, 0 to 6: BEYOND to SIZE.", ImagesEdges::whichFindings);
    Words.of(43, "BEYOND (counted from then on): another one.", ImagesEdges::statusBeyond);
  }

  /** Something of everything that there is, and an image of it. */
  private static TwinLights rich() {
    TwinLights x = Due.told("pattern 1235;lag 2;ship at 6;tug at 4 speed 3;racer at 20 back port");
    x.go(7);
    x.change(0, 5, 9999);
    x.change(1, 6, 9998);
    x.hold(0, 2);
    x.hold(9, 1);
    x.seed(99);
    Due.sheet(x, 0, 4, 9);
    Due.feed(x, "lag 7");
    x.image();
    return x;
  }

  /** Everything that an image keeps becomes another. */
  private static void change(TwinLights x) {
    x.nights(5);
    x.go(9);
    x.set(0, 9);
    x.set(1, 9);
    x.set(2, 0);
    x.set(3, 9);
    x.ship(5, 5);
    for (int what = 0; what <= 6; what++) {
      for (int ship = 0; ship <= 2; ship++) {
        x.change(ship, what, x.of(ship, what) == 0 ? 1 : 0);
      }
    }
    x.hold(0, 3);
    x.hold(9, -1);
    x.hold(4, 3);
  }

  private static void allIsKept() {
    TwinLights x = rich();
    String before = Due.all(x);
    Due.is("image()", x.image(), 1);
    Due.is("image() again", x.image(), 1);
    Due.same("image()", Due.all(x), before);
    change(x);
    Due.is("count(1)", x.count(1), 4);
    x.undo();
    Due.same("undo()", Due.all(x), before);
    int[] spots = {2, -1, -1, -1, -1, -1, -1, -1, -1, 1};
    for (int spot = 0; spot <= 9; spot++) {
      Due.is("as(" + spot + ", 0)", x.as(spot, 0), spots[spot] < 0 ? Due.MISSING : spots[spot]);
    }
    // None is kept of no ships, and eight are kept of eight.
    TwinLights none = new TwinLights();
    none.image();
    none.ship(4, 4);
    none.hold(0, 0);
    none.undo();
    Due.same("undo() to a new one", Spent.learned(none), Spent.learned(imageOfNone()));
    TwinLights eight = Due.eight();
    eight.image();
    before = Due.all(eight);
    eight.go(60);
    eight.undo();
    Due.same("undo() to eight", Due.all(eight), before);
  }

  private static TwinLights imageOfNone() {
    TwinLights x = new TwinLights();
    x.image();
    return x;
  }

  private static void tapeAndSheetsAreNot() {
    TwinLights x = rich();
    x.write(0, 1, 0);
    x.sheet(3, 8, 0);
    Due.feed(x, ";lag 8");
    x.undo();
    Due.is("count(5)", x.count(5), 11);
    Due.is("judge(3)", x.judge(3), 0);
    x.change(0, 1, 4);
    x.change(1, 1, 0);
    Due.is("judge(0)", x.judge(0), 0);
    Due.is("text()", x.text(), 2);
    Due.is("light(1)", x.light(1), 8);
    x.sheet(0, 0, 0);
    x.undo();
    Due.is("judge(0)", x.judge(0), Due.MISSING);
    Due.is("count(5)", x.count(5), 0);
    Due.is("light(1)", x.light(1), 2);
  }

  private static void theLatest() {
    TwinLights x = rich();
    x.go(1);
    x.image();
    String latest = Due.all(x);
    change(x);
    Due.is("undo()", x.undo(), 8);
    Due.same("undo()", Due.all(x), latest);
    Due.is("undo() again: no earlier one comes", x.undo(), 8);
    x.tear();
    Due.is("undo() behind tear()", x.undo(), Due.NONE);
  }

  private static void whichStays() {
    TwinLights x = rich();
    String before = Due.all(x);
    for (int again = 0; again < 4; again++) {
      change(x);
      Due.is("undo()", x.undo(), 7);
      Due.same("undo()", Due.all(x), before);
    }
    Due.is("undo() at once", x.undo(), 7);
    Due.is("tear()", x.tear(), 1);
  }

  private static void undoTellsTick() {
    TwinLights x = new TwinLights();
    x.image();
    Due.is("undo() at once", x.undo(), 0);
    x.go(60);
    Due.is("undo()", x.undo(), 0);
    Due.is("count(0)", x.count(0), 0);
    x.go(60);
    x.go(60);
    x.image();
    x.go(1);
    Due.is("undo()", x.undo(), 120);
    Due.is("count(0)", x.count(0), 120);
  }

  private static void undoNone() {
    Due.refused("undo() of a new one", Due.NONE, TwinLights::new, x -> x.undo());
    Due.refused("undo() behind tear()", Due.NONE, ImagesEdges::tornOne, x -> x.undo());
  }

  private static TwinLights tornOne() {
    TwinLights x = rich();
    x.tear();
    x.go(3);
    return x;
  }

  private static void torn() {
    TwinLights x = new TwinLights();
    Due.is("tear() of nothing", x.tear(), 0);
    x.image();
    Due.is("tear()", x.tear(), 1);
    Due.is("tear() again", x.tear(), 0);
    x.image();
    x.image();
    Due.is("tear() of two", x.tear(), 1);
    Due.is("tear() again", x.tear(), 0);
    x.image();
    x.undo();
    Due.is("tear() behind undo()", x.tear(), 1);
    x.image();
    Due.is("undo() of a new image", x.undo(), 0);
    Due.is("status(-1)", x.status(-1), 0);
    TwinLights y = rich();
    String before = Due.all(y);
    y.tear();
    Due.same("tear()", Due.all(y), before);
  }

  private static void counts() {
    TwinLights x = new TwinLights();
    for (int what = 0; what <= 7; what++) {
      Due.is("count(" + what + ") of a new one", x.count(what), what == 6 ? 1 : 0);
    }
    x = Due.eight();
    for (int ship = 0; ship < 8; ship++) {
      x.change(ship, 5, 9999);
      x.change(ship, 6, 9998);
      x.change(ship, 4, 1);
    }
    x.go(60);
    x.set(3, 16777215);
    Due.feed(x, " ".repeat(120));
    x.seed(Due.LEAST_INT);
    for (int spot = 0; spot <= 9; spot++) {
      x.hold(spot, spot == 0 ? 0 : 7);
    }
    int[] most = {60, 8, 79992, 79984, 16777215, 120, Due.LEAST_INT, 10};
    for (int what = 0; what <= 7; what++) {
      Due.is("count(" + what + ")", x.count(what), most[what]);
    }
  }

  private static void everyFinding() {
    TwinLights x = new TwinLights();
    for (int n = 1; n <= 200; n++) {
      Due.is("judge(0)", x.judge(0), Due.MISSING);
      Due.is("status(5)", x.status(5), n);
    }
    Due.is("status(-1)", x.status(-1), 200);
    // Neither a fault, nor no ship, nor z is a finding.
    TwinLights y = new TwinLights();
    y.text();
    y.now(5);
    y.seed(-1000001);
    y.seed(-1000002);
    y.count(6);
    y.wipe();
    y.tear();
    Due.is("status(-1)", y.status(-1), 0);
    // An act that is refused for two reasons counts once.
    y.copy(9, 9, 9, 9, 9);
    y.ship(9, 99);
    Due.is("status(-1)", y.status(-1), 2);
  }

  private static void noneIsTakenBack() {
    TwinLights x = rich();
    x.of(9, 9);
    x.judge(3);
    x.undo();
    Due.is("status(0)", x.status(0), 1);
    Due.is("status(5)", x.status(5), 1);
    Due.is("status(-1)", x.status(-1), 2);
    x.tear();
    x.undo();
    Due.is("status(3)", x.status(3), 1);
    Due.is("status(-1)", x.status(-1), 3);
  }

  private static void whichFindings() {
    TwinLights x = Due.eight();
    x.hold(0, 0);
    for (int which = 0; which <= 6; which++) {
      for (int n = 0; n <= which; n++) {
        answer(x, which);
      }
    }
    // STATE can't be had so soon.
    int[] due = {1, 2, 3, 4, 0, 6, 7};
    for (int which = 0; which <= 6; which++) {
      Due.is("status(" + which + ")", x.status(which), due[which]);
    }
    Due.is("status(-1)", x.status(-1), 23);
    Due.is("status(-1) again: it counts nothing", x.status(-1), 23);
  }

  private static void answer(TwinLights x, int which) {
    switch (which) {
      case 0: x.light(6); break;
      case 1: x.ship(0, 0); break;
      case 2: x.as(0, 1); break;
      case 3: x.undo(); break;
      case 5: x.load(0); break;
      case 6: x.sheet(0, 0, -1); break;
      default: break;
    }
  }

  private static void statusBeyond() {
    Due.range("status", -1, 6, ImagesEdges::rich, (x, v) -> x.status(v));
    TwinLights x = new TwinLights();
    Due.is("status(7)", x.status(7), Due.BEYOND);
    Due.is("status(0)", x.status(0), 1);
    Due.is("status(-2)", x.status(-2), Due.BEYOND);
    Due.is("status(-1)", x.status(-1), 2);
    Due.is("status(0)", x.status(0), 2);
  }
}
