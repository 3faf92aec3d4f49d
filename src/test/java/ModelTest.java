import java.lang.reflect.Method;
import java.util.ArrayList;
import java.util.List;
import java.util.Random;

/**
 * Runs of drawn calls on new objects, at most 512 each, every answer compared with the Model's.
 * The seeds are told, so that each run is the same on every machine.
 */
public final class ModelTest {
  private static final int RUNS = 1500;
  /** Behind these a step (a text of 120 bytes at the most) and the last questions find room. */
  private static final int CALLS = 512 - 16 - 125;
  private static final Random DRAWS = new Random(70);
  private static final List<Method> FACE = new ArrayList<>();

  private static TwinLights x;
  private static Model model;
  private static int calls;

  public static void main(String[] args) throws ReflectiveOperationException {
    for (String name : NAMES) {
      for (Method m : TwinLights.class.getDeclaredMethods()) {
        if (m.getName().equals(name)) {
          FACE.add(m);
        }
      }
    }
    Due.is("methods of the face", FACE.size(), 42);
    for (int run = 0; run < RUNS; run++) {
      x = new TwinLights();
      model = new Model();
      calls = 0;
      DRAWS.setSeed(1000 + run);
      boolean strange = run % 8 == 7;
      begin();
      while (calls < CALLS) {
        step(run, strange);
      }
      for (int what = 0; what <= 7; what++) {
        ask("run " + run, "count", what);
      }
      for (int which = -1; which <= 6; which++) {
        ask("run " + run, "status", which);
      }
    }
    Due.end();
  }

  private static final String[] NAMES = {
    "set", "light", "ship", "of", "change", "who", "go", "now", "ahead", "shows", "strands", "when",
    "meet", "period", "lagFor", "patternFor", "kindFor", "start", "speedFor", "keepIn", "lags",
    "fits", "pattern", "kinds", "nights", "odds", "seed", "feed", "wipe", "text", "hold", "as",
    "sheet", "write", "copy", "load", "judge", "image", "undo", "tear", "count", "status",
  };

  private static void ask(String run, String name, int... a) throws ReflectiveOperationException {
    calls++;
    for (Method m : FACE) {
      if (m.getName().equals(name)) {
        Object[] given = new Object[a.length];
        for (int i = 0; i < a.length; i++) {
          given[i] = a[i];
        }
        long got = ((Number) m.invoke(x, given)).longValue();
        Due.is(run + ": " + name + java.util.Arrays.toString(a), got, model.call(name, a));
      }
    }
  }

  private static int below(int n) {
    return DRAWS.nextInt(n);
  }

  private static void begin() throws ReflectiveOperationException {
    for (int i = below(9); i > 0; i--) {
      ask("begin", "ship", below(7), below(24));
    }
    ask("begin", "set", 0, below(4096));
  }

  private static void step(int run, boolean strange) throws ReflectiveOperationException {
    String name = NAMES[below(NAMES.length)];
    // The dear ones come seldom: the Model tries all there is.
    if (name.equals("patternFor") && below(12) > 0) {
      name = "go";
    }
    if (name.equals("text")) {
      ask("run " + run, "wipe");
      feed(run, drawnText());
    }
    int[] a = arguments(name);
    if (strange && below(3) == 0 || below(25) == 0) {
      spoil(a);
    }
    ask("run " + run, name, a);
  }

  private static void spoil(int[] a) {
    int[] odd = {-1, -2, Integer.MIN_VALUE, Integer.MAX_VALUE, 7, 8, 9, 10, 24, 61, 101, 4096};
    if (a.length > 0) {
      a[below(a.length)] = odd[below(odd.length)];
    }
  }

  private static int[] arguments(String name) {
    switch (name) {
      case "set": {
        int what = below(4);
        return new int[] {what, below(new int[] {4096, 24, 2, 16777216}[what])};
      }
      case "light": return new int[] {below(6)};
      case "ship": return new int[] {below(7), below(24)};
      case "of": return new int[] {below(8), below(9)};
      case "change": {
        int what = below(7);
        int v = below(new int[] {7, 24, 2, 6, 2, 6, 6}[what]);
        return new int[] {below(8), what, what >= 5 && below(6) == 0 ? 9999 - v : v};
      }
      case "who": return new int[] {below(24)};
      case "go": return new int[] {1 + below(below(4) == 0 ? 60 : 4)};
      case "now": return new int[] {below(7)};
      case "ahead": return new int[] {below(8), new int[] {1, 2, 5, 6}[below(4)], below(101)};
      case "shows": return new int[] {below(2), below(101)};
      case "strands": return new int[] {below(8)};
      case "when": return new int[] {below(8), below(24)};
      case "meet": return new int[] {below(8), below(8)};
      case "lagFor": return new int[] {below(61)};
      case "patternFor": return new int[] {below(13)};
      case "kindFor": case "start": case "speedFor": return new int[] {below(8), below(61)};
      case "keepIn": return new int[] {below(4) == 0 ? below(10000) : below(40), below(21)};
      case "nights": return new int[] {1 + below(20)};
      case "odds": return new int[] {below(18), below(2)};
      case "seed": return new int[] {DRAWS.nextInt()};
      case "hold": return new int[] {below(10), below(9) - 1};
      case "as": return new int[] {below(10), below(7)};
      case "count": return new int[] {below(8)};
      case "status": return new int[] {below(8) - 1};
      case "feed": return new int[] {DRAWS.nextInt(), 1 + below(4)};
      default: return argumentsOfSheets(name);
    }
  }

  private static int[] argumentsOfSheets(String name) {
    switch (name) {
      case "lags": case "fits": case "pattern": case "load": case "judge":
        write();
        return new int[] {below(4)};
      case "kinds":
        write();
        return new int[] {below(4), below(8)};
      case "sheet": return new int[] {below(4), new int[] {0, 8, 8, 16, 32}[below(5)], below(41)};
      case "write": return new int[] {below(4), below(41), below(2) == 0 ? below(24) : shown()};
      case "copy": return new int[] {below(4), below(12), below(4), below(12), below(12)};
      default: return new int[0];
    }
  }

  private static int shown() {
    return below(20) == 0 ? DRAWS.nextInt() : below(3) - 1;
  }

  /** A sheet that tells, for the most part, what will be so: lights, cells or speeds. */
  private static void write() {
    int s = below(4);
    int n = below(below(2) == 0 ? 41 : 6);
    int of = below(3);
    int ship = below(8);
    try {
      ask("write", "sheet", s, new int[] {8, 16, 32}[below(3)], n);
      for (int i = 0; i < n; i++) {
        int v = below(6);
        if (of == 0) {
          v = (int) model.call("shows", 1, i);
        } else if (of == 1 && ship < model.world.boats.size()) {
          v = (int) model.call("ahead", ship, 1, i);
        } else if (i < model.world.boats.size() && below(2) == 0) {
          v = model.world.boats.get(i).cell();
        }
        ask("write", "write", s, i, below(4) == 0 ? -1 : v);
      }
    } catch (ReflectiveOperationException e) {
      throw new IllegalStateException(e);
    }
  }

  private static String drawnText() {
    StringBuilder text = new StringBuilder();
    int items = 1 + below(5);
    for (int i = 0; i < items; i++) {
      text.append(i > 0 ? ";" : "").append(drawnItem());
    }
    if (below(3) == 0) {
      String odd = "ab z0123;;  #Z\u00e9\n";
      int place = below(text.length() + 1);
      if (below(2) == 0 && place < text.length()) {
        text.deleteCharAt(place);
      } else {
        text.insert(place, odd.charAt(below(odd.length())));
      }
    }
    return text.length() > 120 ? text.substring(0, 120) : text.toString();
  }

  private static String drawnItem() {
    String gap = below(3) == 0 ? "  " : " ";
    if (below(3) == 0) {
      int what = below(3);
      int v = below(new int[] {4110, 25, 3}[what]);
      return new String[] {"pattern", "lag", "book"}[what] + (below(2) == 0 ? "" : gap) + v;
    }
    String[] kinds = {"ship", "tug", "liner", "yacht", "racer", "ghost", "pilot"};
    String item = kinds[below(7)];
    item += below(2) == 0 ? gap + "at" + gap + below(25) : "";
    item += below(3) == 0 ? gap + "back" : "";
    item += below(2) == 0 ? gap + "speed" + below(7) : "";
    item += below(4) == 0 ? gap + "port" : "";
    return item;
  }

  private static void feed(int run, String text) throws ReflectiveOperationException {
    for (int i = 0; i < text.length(); i++) {
      ask("run " + run, "feed", text.charAt(i), 1);
    }
  }
}
