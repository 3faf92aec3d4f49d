import java.util.function.Supplier;
import java.util.function.ToLongFunction;

/** What the tests share: answers compared with those that are due, and findings looked at whole. */
final class Due {
  static final int BEYOND = -1000001;
  static final int FULL = -1000002;
  static final int KIND = -1000003;
  static final int NONE = -1000004;
  static final int STATE = -1000005;
  static final int MISSING = -1000006;
  static final int SIZE = -1000007;
  static final int LEAST_INT = Integer.MIN_VALUE;
  static final int GREATEST_INT = Integer.MAX_VALUE;

  /** A call of which one argument is looked at. */
  interface Call {
    long of(TwinLights x, int v);
  }

  /** Stands before each row that is told: the sentence that is being tested, or nothing. */
  static String under = "";

  private static int asked = 0;
  private static int wrong = 0;

  private Due() {}

  static int asked() {
    return asked;
  }

  static void is(String call, long got, long want) {
    asked++;
    if (got != want) {
      wrong++;
      System.out.println(under + call + " answered " + got + ", due is " + want);
    }
  }

  static void same(String call, String got, String want) {
    asked++;
    if (!got.equals(want)) {
      wrong++;
      System.out.println(under + call + " left " + got + ", due is " + want);
    }
  }

  /** The call answers the finding on a new object, counts it once, and changes nothing else. */
  static void refused(String call, int finding, Supplier<TwinLights> made,
      ToLongFunction<TwinLights> act) {
    TwinLights x = made.get();
    int[] counted = statuses(x);
    is(call, act.applyAsLong(x), finding);
    counted[0]++;
    counted[1 + BEYOND - finding]++;
    int[] then = statuses(x);
    for (int i = 0; i < then.length; i++) {
      is("status(" + (i - 1) + ") behind " + call, then[i], counted[i]);
    }
    same(call, Spent.learned(x), Spent.learned(made.get()));
  }

  /** None of these is taken: each is BEYOND, and changes nothing. */
  static void beyond(String call, Supplier<TwinLights> made, Call act, int... values) {
    for (int v : values) {
      refused(call + " of " + v, BEYOND, made, x -> act.of(x, v));
    }
  }

  /** Each of these is taken: none is BEYOND. */
  static void taken(String call, Supplier<TwinLights> made, Call act, int... values) {
    for (int v : values) {
      TwinLights x = made.get();
      int before = x.status(0);
      act.of(x, v);
      is("status(0) behind " + call + " of " + v, x.status(0), before);
    }
  }

  /** The least and the greatest are taken, the next ones outside and the farthest ints are not. */
  static void range(String call, int least, int most, Supplier<TwinLights> made, Call act) {
    taken(call, made, act, least, most);
    beyond(call, made, act, least - 1, most + 1, LEAST_INT, GREATEST_INT);
  }

  private static int[] statuses(TwinLights x) {
    int[] row = new int[8];
    for (int i = 0; i < row.length; i++) {
      row[i] = x.status(i - 1);
    }
    return row;
  }

  /** All that can be asked without a finding: lights, counts, ships. */
  static String all(TwinLights x) {
    StringBuilder told = new StringBuilder();
    for (int what = 0; what <= 5; what++) {
      told.append(x.light(what)).append(' ');
    }
    for (int what = 0; what <= 7; what++) {
      told.append(x.count(what)).append(' ');
    }
    for (int i = 0; i < x.count(1); i++) {
      told.append("| ");
      for (int what = 0; what <= 8; what++) {
        told.append(x.of(i, what)).append(' ');
      }
    }
    return told.toString();
  }

  /** CELL, WAY, STRANDED, SAW of a ship. */
  static void ship(String behind, TwinLights x, int i, int cell, int way, int stranded, int saw) {
    same("ship " + i + " behind " + behind,
        x.of(i, 1) + " " + x.of(i, 2) + " " + x.of(i, 5) + " " + x.of(i, 6),
        cell + " " + way + " " + stranded + " " + saw);
  }

  /** What each of the ships answers to of(.., what). */
  static void each(String behind, TwinLights x, int what, int... due) {
    for (int i = 0; i < due.length; i++) {
      is("of(" + i + ", " + what + ") behind " + behind, x.of(i, what), due[i]);
    }
  }

  /** Bytes come four at a time, as far as they go: an object has calls for little else besides. */
  static void feed(TwinLights x, String text) {
    int i = 0;
    for (; i + 4 <= text.length(); i += 4) {
      x.feed(text.charAt(i) << 24 | text.charAt(i + 1) << 16 | text.charAt(i + 2) << 8
          | text.charAt(i + 3), 4);
    }
    for (; i < text.length(); i++) {
      x.feed(text.charAt(i), 1);
    }
  }

  static int read(TwinLights x, String text) {
    feed(x, text);
    return x.text();
  }

  /** A new object to which items have been told, each as a text of its own: a tape is short. */
  static TwinLights told(String items) {
    TwinLights x = new TwinLights();
    for (String item : items.split(";")) {
      is("the test's own item " + item, read(x, item), 1);
    }
    return x;
  }

  /** Eight ships, one of each kind and another SHIP, at different cells. */
  static TwinLights eight() {
    return told("ship at1;tug at4;liner at7;yacht at10;racer at13;ghost at16;pilot at19;ship at22");
  }

  /** A sheet of 8 bits with these numbers. */
  static void sheet(TwinLights x, int s, int... numbers) {
    sheet(x, s, 8, numbers);
  }

  static void sheet(TwinLights x, int s, int bits, int[] numbers) {
    x.sheet(s, bits, numbers.length);
    for (int i = 0; i < numbers.length; i++) {
      x.write(s, i, numbers[i]);
    }
  }

  static void end() {
    System.out.println(asked + " answers, " + wrong + " not as due");
    if (wrong != 0) {
      System.exit(1);
    }
  }
}
