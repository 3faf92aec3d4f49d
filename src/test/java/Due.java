import java.util.function.Supplier;
import java.util.function.ToLongFunction;

/** What the tests share: answers compared with those that are due, and findings looked at whole. */
final class Due {
  static final int BEYOND = -1000001;
  static final int FULL = -1000002;
  static final int KIND = -1000003;
  static final int NONE = -1000004;
  static final int STATE = -1000005;
  static final int MISSING = -1000006;
  static final int SIZE = -1000007;

  private static int asked = 0;
  private static int wrong = 0;

  private Due() {}

  static void is(String call, long got, long want) {
    asked++;
    if (got != want) {
      wrong++;
      System.out.println(call + " answered " + got + ", due is " + want);
    }
  }

  static void same(String call, String got, String want) {
    asked++;
    if (!got.equals(want)) {
      wrong++;
      System.out.println(call + " left " + got + ", due is " + want);
    }
  }

  /** The call answers the finding on a new object, counts it once, and changes nothing else. */
  static void refused(String call, int finding, Supplier<TwinLights> made,
      ToLongFunction<TwinLights> act) {
    TwinLights x = made.get();
    String before = all(x);
    int[] counted = statuses(x);
    is(call, act.applyAsLong(x), finding);
    counted[0]++;
    counted[1 + BEYOND - finding]++;
    int[] then = statuses(x);
    for (int i = 0; i < then.length; i++) {
      is("status(" + (i - 1) + ") behind " + call, then[i], counted[i]);
    }
    same(call, all(x), before);
  }

  private static int[] statuses(TwinLights x) {
    int[] row = new int[8];
    for (int i = 0; i < row.length; i++) {
      row[i] = x.status(i - 1);
    }
    return row;
  }

  /** All that can be asked without a finding: lights, counts, ships. */
  static String all(TwinLights x) {
    StringBuilder told = new StringBuilder();
    for (int what = 0; what <= 5; what++) {
      told.append(x.light(what)).append(' ');
    }
    for (int what = 0; what <= 7; what++) {
      told.append(x.count(what)).append(' ');
    }
    for (int i = 0; i < x.count(1); i++) {
      told.append("| ");
      for (int what = 0; what <= 8; what++) {
        told.append(x.of(i, what)).append(' ');
      }
    }
    return told.toString();
  }

  /** CELL, WAY, STRANDED, SAW of a ship. */
  static void ship(String behind, TwinLights x, int i, int cell, int way, int stranded, int saw) {
    same("ship " + i + " behind " + behind,
        x.of(i, 1) + " " + x.of(i, 2) + " " + x.of(i, 5) + " " + x.of(i, 6),
        cell + " " + way + " " + stranded + " " + saw);
  }

  static void feed(TwinLights x, String text) {
    for (int i = 0; i < text.length(); i++) {
      x.feed(text.charAt(i), 1);
    }
  }

  static int read(TwinLights x, String text) {
    feed(x, text);
    return x.text();
  }

  /** A new object to which items have been told, each as a text of its own: a tape is short. */
  static TwinLights told(String items) {
    TwinLights x = new TwinLights();
    for (String item : items.split(";")) {
      is("the test's own item " + item, read(x, item), 1);
    }
    return x;
  }

  /** A sheet of 8 bits with these numbers. */
  static void sheet(TwinLights x, int s, int... numbers) {
    x.sheet(s, 8, numbers.length);
    for (int i = 0; i < numbers.length; i++) {
      x.write(s, i, numbers[i]);
    }
  }

  static void end() {
    System.out.println(asked + " answers, " + wrong + " not as due");
    if (wrong != 0) {
      System.exit(1);
    }
  }
}
