/** Promises 34 to 38: sheet, write, copy, load, judge. */
public final class SheetsTest {
  private static final int LOW = Integer.MIN_VALUE;
  private static final int HIGH = Integer.MAX_VALUE;

  public static void main(String[] args) {
    sheets();
    written();
    copied();
    loaded();
    judged();
    Due.end();
  }

  private static void number(TwinLights x, int s, int i, int due) {
    Due.is("number " + i + " of sheet " + s, reads(x, s, i), due);
  }

  /** The cell to which ship i must be put so that the reader stops there no more. */
  private static int reads(TwinLights x, int s, int i) {
    for (int cell = 0; cell <= 23; cell++) {
      x.change(i, 1, cell);
      int place = x.judge(s);
      if (place != 1 + i) {
        return cell;
      }
    }
    return -1;
  }

  private static void sheets() {
    TwinLights x = eight();
    for (int s = 0; s <= 3; s++) {
      for (int bits : new int[] {8, 16, 32}) {
        Due.is("sheet(" + s + ", " + bits + ", 40)", x.sheet(s, bits, 40), 40);
        Due.is("sheet(" + s + ", " + bits + ", 0)", x.sheet(s, bits, 0), 0);
        Due.is("judge of one without numbers", x.judge(s), 0);
        Due.is("sheet(" + s + ", " + bits + ", 3)", x.sheet(s, bits, 3), 3);
      }
    }
    Due.is("all are 0", x.judge(0), 1);
    number(x, 0, 0, 0);
    number(x, 0, 1, 0);
    number(x, 0, 2, 0);
    x.write(0, 0, 7);
    x.sheet(0, 32, 3);
    Due.is("all are 0 again", x.judge(0), 0);
    Due.is("sheet(0, 0, 7)", x.sheet(0, 0, 7), 0);
    Due.is("judge(0)", x.judge(0), Due.MISSING);
    Due.is("sheet(0, 0, 0)", x.sheet(0, 0, 0), 0);
    Due.is("sheet(0, 0, 40)", x.sheet(0, 0, 40), 0);
    Due.is("judge(1), which stays", x.judge(1), 0);
  }

  private static TwinLights eight() {
    return Due.told("ship at 1;ship at 2;ship at 3;ship at 4;ship at 5;ship at 6;ship at 7;ship");
  }

  private static void written() {
    TwinLights x = eight();
    x.sheet(0, 8, 3);
    Due.is("write(0, 0, 257)", x.write(0, 0, 257), 1);
    Due.is("write(0, 2, -254)", x.write(0, 2, -254), 1);
    x.write(0, 1, 5);
    number(x, 0, 0, 1);
    number(x, 0, 1, 5);
    number(x, 0, 2, 2);
    x.sheet(0, 16, 2);
    x.write(0, 0, 65539);
    x.write(0, 1, 256);
    number(x, 0, 0, 3);
    Due.is("256 in 16 bits is no cell", x.judge(0), 2);
    x.sheet(0, 32, 1);
    x.write(0, 0, 65539);
    Due.is("65539 in 32 bits is no cell", x.judge(0), 1);
    // With their sign: the greatest of all bits is -1, which is any.
    int[][] signs = {{8, 255}, {16, 65535}, {32, -1}, {8, -1}, {16, -1}};
    for (int[] w : signs) {
      x.sheet(1, w[0], 1);
      x.write(1, 0, w[1]);
      Due.is(w[1] + " in " + w[0] + " bits: any", x.fits(1), 4096);
    }
    int[][] others = {{8, 127}, {8, 128}, {16, 255}, {16, 32768}, {32, 65535}, {32, LOW}};
    for (int[] w : others) {
      x.sheet(1, w[0], 1);
      x.write(1, 0, w[1]);
      Due.is(w[1] + " in " + w[0] + " bits: nothing shown", x.fits(1), 0);
    }
  }

  private static void copied() {
    TwinLights x = eight();
    Due.sheet(x, 0, 1, 2, 3, 4, 5);
    Due.sheet(x, 1, 0, 0, 0);
    Due.is("copy(0, 1, 1, 0, 2)", x.copy(0, 1, 1, 0, 2), 2);
    holds(x, 1, 2, 3, 0);
    Due.is("copy(0, 4, 1, 2, 1)", x.copy(0, 4, 1, 2, 1), 1);
    holds(x, 1, 2, 3, 5);
    holds(x, 0, 1, 2, 3, 4, 5);
    Due.is("copy onto itself, forth", x.copy(0, 0, 0, 1, 4), 4);
    holds(x, 0, 1, 1, 2, 3, 4);
    Due.is("copy onto itself, back", x.copy(0, 2, 0, 0, 3), 3);
    holds(x, 0, 2, 3, 4, 3, 4);
    Due.is("copy of nothing at the ends", x.copy(0, 5, 1, 3, 0), 0);
    holds(x, 0, 2, 3, 4, 3, 4);
    holds(x, 1, 2, 3, 5);
    TwinLights y = eight();
    y.sheet(0, 32, 40);
    y.sheet(3, 32, 40);
    y.write(0, 0, 4);
    y.write(0, 1, HIGH);
    Due.is("copy of all", y.copy(0, 0, 3, 0, 40), 40);
    number(y, 3, 0, 4);
    Due.is("the number that is no cell", y.judge(3), 2);
  }

  private static void holds(TwinLights x, int s, int... numbers) {
    for (int i = 0; i < numbers.length; i++) {
      number(x, s, i, numbers[i]);
    }
    Due.is("judge(" + s + ")", x.judge(s), 0);
  }

  private static void loaded() {
    TwinLights x = Due.told("ship;ship;ship");
    Due.sheet(x, 2, 5, 0, 3);
    Due.is("load(2)", x.load(2), 3);
    speeds(x, 5, 0, 3);
    Due.sheet(x, 2, 2, 6, 4);
    Due.is("load(2), up to 6", x.load(2), 1);
    speeds(x, 2, 0, 3);
    Due.sheet(x, 2, 4, 4, -1);
    Due.is("load(2), up to -1", x.load(2), 2);
    speeds(x, 4, 4, 3);
    Due.sheet(x, 2, -1, 1);
    Due.is("load(2), none", x.load(2), 0);
    Due.sheet(x, 2, 1, 1, 1, 1, 1);
    Due.is("load(2), as many as ships", x.load(2), 3);
    speeds(x, 1, 1, 1);
    Due.sheet(x, 2, 2);
    Due.is("load(2), fewer than ships", x.load(2), 1);
    speeds(x, 2, 1, 1);
    Due.sheet(x, 2);
    Due.is("load(2) of nothing", x.load(2), 0);
    TwinLights y = new TwinLights();
    Due.sheet(y, 0, 1, 1);
    Due.is("load(0) without ships", y.load(0), 0);
    TwinLights z = eight();
    Due.sheet(z, 0, 2, 2, 2, 2, 2, 2, 2, 2, 2, 2);
    Due.is("load(0) of ten for eight", z.load(0), 8);
    Due.is("status(-1)", z.status(-1), 0);
  }

  private static void speeds(TwinLights x, int... due) {
    for (int ship = 0; ship < due.length; ship++) {
      Due.is("of(" + ship + ", 3)", x.of(ship, 3), due[ship]);
    }
  }

  private static void judged() {
    TwinLights x = Due.told("ship at 4;ship at 9 port;ship at 0");
    Due.sheet(x, 0, 4, 9, 0);
    Due.is("judge(0)", x.judge(0), 0);
    Due.sheet(x, 0, 4, 9);
    Due.is("judge(0) of fewer", x.judge(0), 0);
    Due.sheet(x, 0, 4, 9, 0, 0);
    Due.is("judge(0) of more", x.judge(0), 4);
    Due.sheet(x, 0, 3, 8, 0);
    Due.is("judge(0), the first", x.judge(0), 1);
    Due.sheet(x, 0, 4, 8, 1);
    Due.is("judge(0), the second", x.judge(0), 2);
    Due.sheet(x, 0, 4, -1, 0);
    Due.is("judge(0): -1 is no cell", x.judge(0), 2);
    Due.is("status(-1)", x.status(-1), 0);
    Due.is("judge(0) without ships", bare().judge(0), 1);
  }

  private static TwinLights bare() {
    TwinLights x = new TwinLights();
    Due.sheet(x, 0, 0);
    return x;
  }
}
