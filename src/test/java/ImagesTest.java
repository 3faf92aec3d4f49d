/** Promises 39 to 42: image, undo, tear, count. */
public final class ImagesTest {
  public static void main(String[] args) {
    undoing();
    whatIsNotKept();
    theLatestIsKept();
    tearing();
    imagesOfFewerShips();
    counting();
    Due.end();
  }

  private static TwinLights some() {
    TwinLights x = Due.told("pattern 1235;lag 2;ship at 6;tug at 4 speed 3;racer at 20 back port");
    x.go(7);
    x.hold(3, 1);
    x.seed(99);
    return x;
  }

  private static void change(TwinLights x) {
    x.nights(5);
    x.go(9);
    x.set(0, 9);
    x.set(1, 9);
    x.set(2, 0);
    x.set(3, 9);
    x.ship(5, 5);
    for (int what = 0; what <= 6; what++) {
      x.change(0, what, 1);
      x.change(2, what, 0);
    }
    x.hold(3, -1);
    x.hold(4, 2);
    x.hold(5, 2);
  }

  private static void undoing() {
    TwinLights x = some();
    String before = Due.all(x);
    Due.is("image()", x.image(), 1);
    Due.same("image()", Due.all(x), before);
    for (int again = 0; again < 3; again++) {
      change(x);
      Due.is("count(0)", x.count(0), 21);
      Due.is("undo()", x.undo(), 7);
      Due.same("undo()", Due.all(x), before);
      Due.is("as(3, 1)", x.as(3, 1), 1);
      Due.is("as(4, 1)", x.as(4, 1), Due.MISSING);
    }
    Due.is("undo() twice", x.undo(), 7);
    TwinLights y = some();
    y.as(4, 1);
    y.as(4, 1);
    y.as(4, 1);
    Due.is("go(33) behind undo()", x.go(33), y.go(33));
    Due.same("go(33) behind undo()", Due.all(x), Due.all(y));
  }

  private static void whatIsNotKept() {
    TwinLights x = some();
    Due.feed(x, "lag 7");
    Due.sheet(x, 0, 1, 2);
    x.sheet(1, 8, 0);
    x.image();
    x.of(9, 9);
    Due.feed(x, ";lag 8");
    x.write(0, 1, 9);
    x.sheet(1, 0, 0);
    x.sheet(2, 8, 0);
    x.undo();
    Due.is("status(0)", x.status(0), 1);
    Due.is("count(5)", x.count(5), 11);
    Due.is("text()", x.text(), 2);
    Due.is("light(1)", x.light(1), 8);
    x.change(0, 1, 1);
    x.change(1, 1, 9);
    Due.is("judge(0)", x.judge(0), 0);
    Due.is("judge(1)", x.judge(1), Due.MISSING);
    Due.is("judge(2)", x.judge(2), 0);
    x.undo();
    Due.is("light(1)", x.light(1), 2);
  }

  private static void theLatestIsKept() {
    TwinLights x = some();
    x.image();
    x.go(1);
    String before = Due.all(x);
    x.image();
    x.go(1);
    Due.is("undo()", x.undo(), 8);
    Due.same("undo()", Due.all(x), before);
    x.go(3);
    Due.is("undo() again", x.undo(), 8);
  }

  private static void tearing() {
    TwinLights x = some();
    Due.is("tear()", x.tear(), 0);
    x.image();
    x.go(1);
    String before = Due.all(x);
    Due.is("tear()", x.tear(), 1);
    Due.is("tear()", x.tear(), 0);
    Due.is("undo()", x.undo(), Due.NONE);
    Due.same("undo() of nothing", Due.all(x), before);
    x.image();
    x.image();
    Due.is("tear() of what was kept twice", x.tear(), 1);
    Due.is("undo()", x.undo(), Due.NONE);
    x.image();
    Due.is("undo()", x.undo(), 8);
  }

  private static void imagesOfFewerShips() {
    TwinLights x = new TwinLights();
    x.image();
    x.ship(4, 4);
    x.change(0, 3, 5);
    x.change(0, 5, 5);
    x.change(0, 6, 5);
    x.change(0, 4, 1);
    x.change(0, 2, 0);
    x.hold(0, 0);
    Due.is("undo()", x.undo(), 0);
    Due.is("count(1)", x.count(1), 0);
    Due.is("count(7)", x.count(7), 0);
    Due.is("of(0, 0)", x.of(0, 0), Due.BEYOND);
    Due.is("ship(0, 9)", x.ship(0, 9), 0);
    int[] due = {0, 9, 1, 1, 0, 0, 0};
    for (int what = 0; what < due.length; what++) {
      Due.is("of(0, " + what + ")", x.of(0, what), due[what]);
    }
    TwinLights y = Due.told("ship;tug at 3");
    y.image();
    y.go(5);
    y.ship(2, 2);
    y.undo();
    Due.is("of(1, 1)", y.of(1, 1), 3);
    Due.is("count(1)", y.count(1), 2);
  }

  private static void counting() {
    TwinLights x = Due.told("ship at 5;tug at 3 port");
    x.change(0, 5, 4);
    x.change(1, 5, 30);
    x.change(0, 6, 200);
    x.change(1, 6, 1000);
    x.set(3, 77);
    x.seed(-1000003);
    x.hold(0, 0);
    x.hold(7, 0);
    x.hold(9, 1);
    Due.feed(x, "abc");
    int[] due = {0, 2, 34, 1200, 77, 3, -1000003, 3};
    for (int what = 0; what <= 7; what++) {
      Due.is("count(" + what + ")", x.count(what), due[what]);
    }
    Due.is("status(-1)", x.status(-1), 0);
    x.go(3);
    Due.is("count(0)", x.count(0), 3);
    Due.is("count(4)", x.count(4), 0b1001101101);
  }
}
