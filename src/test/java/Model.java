import java.math.BigInteger;
import java.util.ArrayList;
import java.util.List;
import java.util.function.ToIntFunction;

/**
 * The document said again as plainly as can be, to compare the class with: what will be is found by
 * letting a copy of the world go on, what would be best by trying all there is. It is slow, and
 * shares nothing with the class.
 */
final class Model {
  static final class Finding extends RuntimeException {
    private static final long serialVersionUID = 1L;
    final int code;

    Finding(int code) {
      super(null, null, false, false);
      this.code = code;
    }
  }

  static final class Boat {
    int[] told = {0, 0, 1, 1, 0, 0, 0};

    Boat copy() {
      Boat b = new Boat();
      b.told = told.clone();
      return b;
    }

    int kind() { return told[0]; }
    int cell() { return told[1]; }
    int speed() { return told[3]; }
    boolean inPort() { return told[4] == 1; }

    boolean sees(int kind, boolean second, boolean shown, int tick) {
      int far = second ? 23 - cell() : cell();
      switch (kind) {
        case 0: return shown;
        case 1: return shown && far <= 8;
        case 2: return shown && tick % 2 == 0;
        case 3: return sees(2, second, shown, tick) || shown && speed() <= 1;
        case 4: return shown && second;
        case 5: return !shown;
        default: return sees(1, second, shown, tick) || shown && cell() % 2 == 0;
      }
    }

    int goes(int kind, int tick) {
      switch (kind) {
        case 0: return speed();
        case 1: return speed() > 0 ? 1 : 0;
        case 2: return goes(0, tick) + 1;
        case 3: return goes(2, tick) - (tick % 2 == 1 ? 1 : 0);
        case 4: return goes(3, tick) + 2;
        case 5: return goes(0, tick);
        default: return 2 * goes(1, tick);
      }
    }

    void pass(boolean first, boolean second, int tick) {
      boolean a = sees(kind(), false, first, tick);
      boolean b = sees(kind(), true, second, tick);
      int goes = goes(kind(), tick);
      if (a && !b) {
        told[2] = 1;
      }
      if (b && !a) {
        told[2] = 0;
      }
      told[6] = Math.min(9999, told[6] + (a ? 1 : 0) + (b ? 1 : 0));
      if (a && b) {
        return;
      }
      for (int i = 0; i < goes; i++) {
        if (told[2] == 1 && cell() < 23) {
          told[1]++;
        } else if (told[2] == 0 && cell() > 0) {
          told[1]--;
        }
      }
      if (goes > 0 && (cell() == 0 || cell() == 23)) {
        told[5] = Math.min(9999, told[5] + 1);
        told[1] = 11;
        told[2] = 1 - told[2];
      }
    }
  }

  static final class World {
    int tick = 0;
    int[] lights = {5, 4, 1, 0};
    List<Boat> boats = new ArrayList<>();
    int z = 1;
    int[] spots = {-1, -1, -1, -1, -1, -1, -1, -1, -1, -1};

    World copy() {
      World w = new World();
      w.tick = tick;
      w.lights = lights.clone();
      for (Boat b : boats) {
        w.boats.add(b.copy());
      }
      w.z = z;
      w.spots = spots.clone();
      return w;
    }

    boolean first() {
      return (lights[0] / (1 << tick % 12)) % 2 == 1;
    }

    /** THE PAST as it is when this tick's bit has come to it. */
    int pastThen() {
      return (lights[3] * 2 + (first() ? 1 : 0)) % (1 << 24);
    }

    boolean second() {
      return lights[2] == 1 ? (pastThen() / (1 << lights[1])) % 2 == 1 : first();
    }

    World pass() {
      boolean first = first();
      boolean second = second();
      lights[3] = pastThen();
      for (Boat b : boats) {
        if (!b.inPort()) {
          b.pass(first, second, tick);
        }
      }
      tick = Math.min(99999, tick + 1);
      return this;
    }

    World behind(int n) {
      World w = copy();
      for (int i = 0; i < n; i++) {
        w.pass();
      }
      return w;
    }

    int sum(int what) {
      return boats.stream().mapToInt(b -> b.told[what]).sum();
    }

    int draw() {
      z = z * 1103515245 + 12345;
      return z >>> 8;
    }
  }

  static final class Page {
    int bits;
    int[] numbers;
  }

  World world = new World();
  World kept = null;
  List<Integer> tape = new ArrayList<>();
  Page[] pages = new Page[4];
  int[] found = new int[7];

  private static void ask(boolean stands, int finding) {
    if (!stands) {
      throw new Finding(finding);
    }
  }

  private static void between(int v, int least, int most) {
    ask(v >= least && v <= most, Due.BEYOND);
  }

  private Boat boat(int ship) {
    between(ship, 0, world.boats.size() - 1);
    return world.boats.get(ship);
  }

  private Page page(int s) {
    between(s, 0, 3);
    ask(pages[s] != null, Due.MISSING);
    return pages[s];
  }

  private static int least(int from, int to, ToIntFunction<Integer> price) {
    int best = from;
    int lowest = Integer.MAX_VALUE;
    for (int v = from; v <= to; v++) {
      int p = price.applyAsInt(v);
      if (p < lowest) {
        lowest = p;
        best = v;
      }
    }
    return best;
  }

  /** Answers a call by its name; findings are counted. */
  long call(String name, int... a) {
    try {
      return act(name, a);
    } catch (Finding f) {
      found[Due.BEYOND - f.code]++;
      return f.code;
    }
  }

  private long act(String name, int[] a) {
    switch (name) {
      case "set": case "light": case "ship": case "of": case "change": case "who":
        return actOnShips(name, a);
      case "go": case "now":
        return actByTicks(name, a);
      case "ahead": case "shows": case "strands": case "when": case "meet": case "period":
        return actAhead(name, a);
      case "lagFor": case "patternFor": case "kindFor": case "start": case "speedFor":
      case "keepIn":
        return actToShine(name, a);
      case "lags": case "fits": case "pattern": case "kinds":
        return actBySeen(name, a);
      case "nights": case "odds": case "seed":
        return actByNight(name, a);
      case "feed": case "wipe": case "text":
        return actOnTape(name, a);
      case "hold": case "as": case "sheet": case "write": case "copy": case "load": case "judge":
        return actOnSheets(name, a);
      default:
        return actOnImages(name, a);
    }
  }

  private long actOnShips(String name, int[] a) {
    int[] mostOfLights = {4095, 23, 1, 16777215};
    int[] mostOfShips = {6, 23, 1, 5, 1, 9999, 9999};
    switch (name) {
      case "set": {
        between(a[0], 0, 3);
        between(a[1], 0, mostOfLights[a[0]]);
        int was = world.lights[a[0]];
        world.lights[a[0]] = a[1];
        return was;
      }
      case "light":
        between(a[0], 0, 5);
        return a[0] < 4 ? world.lights[a[0]] : (a[0] == 4 ? world.first() : world.second()) ? 1 : 0;
      case "ship": {
        between(a[0], 0, 6);
        between(a[1], 0, 23);
        ask(world.boats.size() < 8, Due.FULL);
        Boat b = new Boat();
        b.told[0] = a[0];
        b.told[1] = a[1];
        world.boats.add(b);
        return world.boats.size() - 1;
      }
      case "of": {
        Boat b = boat(a[0]);
        between(a[1], 0, 8);
        if (a[1] == 7) {
          return b.goes(b.kind(), world.tick);
        }
        if (a[1] == 8) {
          return (b.sees(b.kind(), false, world.first(), world.tick) ? 1 : 0)
              + (b.sees(b.kind(), true, world.second(), world.tick) ? 2 : 0);
        }
        return b.told[a[1]];
      }
      case "change": {
        Boat b = boat(a[0]);
        between(a[1], 0, 6);
        between(a[2], 0, mostOfShips[a[1]]);
        int was = b.told[a[1]];
        b.told[a[1]] = a[2];
        return was;
      }
      default: {
        between(a[0], 0, 23);
        int set = 0;
        for (int i = 0; i < world.boats.size(); i++) {
          Boat b = world.boats.get(i);
          set += !b.inPort() && b.cell() == a[0] ? 1 << i : 0;
        }
        return set;
      }
    }
  }

  private long actByTicks(String name, int[] a) {
    if (name.equals("go")) {
      between(a[0], 1, 60);
      ask(world.tick + a[0] <= 99999, Due.STATE);
      world = world.behind(a[0]);
      return world.sum(5);
    }
    between(a[0], 0, 6);
    int port = 0;
    int cells = 0;
    int nearest = -1;
    for (int i = world.boats.size() - 1; i >= 0; i--) {
      Boat b = world.boats.get(i);
      if (b.inPort()) {
        port |= 1 << i;
        continue;
      }
      cells |= 1 << b.cell();
      if (nearest < 0 || b.cell() <= world.boats.get(nearest).cell()) {
        nearest = i;
      }
    }
    int bits = Integer.toBinaryString(world.lights[3]).replace("0", "").length();
    return new int[] {world.tick, world.sum(5), world.sum(6), port, cells, nearest, bits}[a[0]];
  }

  private long actAhead(String name, int[] a) {
    switch (name) {
      case "ahead":
        boat(a[0]);
        ask(a[1] == 1 || a[1] == 2 || a[1] == 5 || a[1] == 6, Due.BEYOND);
        between(a[2], 0, 100);
        return world.behind(a[2]).boats.get(a[0]).told[a[1]];
      case "shows": {
        between(a[0], 0, 1);
        between(a[1], 0, 100);
        World w = world.behind(a[1]);
        return (a[0] == 0 ? w.first() : w.second()) ? 1 : 0;
      }
      case "strands": {
        int now = boat(a[0]).told[5];
        World w = world.copy();
        for (int n = 1; n <= 200; n++) {
          if (w.pass().boats.get(a[0]).told[5] > now) {
            return n;
          }
        }
        throw new Finding(Due.NONE);
      }
      case "when": {
        boat(a[0]);
        between(a[1], 0, 23);
        World w = world.copy();
        for (int n = 0; n <= 200; n++, w.pass()) {
          if (w.boats.get(a[0]).cell() == a[1]) {
            return n;
          }
        }
        throw new Finding(Due.NONE);
      }
      case "meet": {
        boat(a[0]);
        boat(a[1]);
        ask(a[0] != a[1], Due.BEYOND);
        World w = world.copy();
        for (int n = 0; n <= 200; n++, w.pass()) {
          if (w.boats.get(a[0]).cell() == w.boats.get(a[1]).cell()) {
            return n;
          }
        }
        throw new Finding(Due.NONE);
      }
      default: {
        String bits = Integer.toBinaryString(4096 + world.lights[0]).substring(1);
        return (bits + bits).indexOf(bits, 1);
      }
    }
  }

  private int strandedOf(int ship, int what, int v, int n) {
    World w = world.copy();
    w.boats.get(ship).told[what] = v;
    return w.behind(n).boats.get(ship).told[5];
  }

  private int strandedWithLight(int what, int v, int n) {
    World w = world.copy();
    w.lights[what] = v;
    return w.behind(n).sum(5);
  }

  private long actToShine(String name, int[] a) {
    switch (name) {
      case "lagFor":
        between(a[0], 0, 60);
        return least(0, 23, lag -> strandedWithLight(1, lag, a[0]));
      case "patternFor":
        between(a[0], 0, 12);
        return least(0, 4095, pattern -> strandedWithLight(0, pattern, a[0]));
      case "kindFor":
        boat(a[0]);
        between(a[1], 0, 60);
        return least(0, 6, kind -> strandedOf(a[0], 0, kind, a[1]));
      case "start":
        boat(a[0]);
        between(a[1], 0, 60);
        return least(0, 23, cell -> strandedOf(a[0], 1, cell, a[1]));
      case "speedFor": {
        Boat b = boat(a[0]);
        between(a[1], 0, 60);
        int best = least(-5, 0, v -> strandedOf(a[0], 3, -v, a[1]) == b.told[5] ? 0 : 1);
        ask(strandedOf(a[0], 3, -best, a[1]) == b.told[5], Due.NONE);
        return -best;
      }
      default: {
        between(a[0], 0, 9999);
        between(a[1], 0, 20);
        int all = 1 << world.boats.size();
        int best = least(0, all - 1, set -> keeps(set, a[0], a[1])
            ? Integer.toBinaryString(set).replace("0", "").length() : 99);
        ask(keeps(best, a[0], a[1]), Due.NONE);
        return best;
      }
    }
  }

  private boolean keeps(int set, int v, int n) {
    World w = world.copy();
    for (int i = 0; i < w.boats.size(); i++) {
      if ((set >> i) % 2 == 1) {
        w.boats.get(i).told[4] = 1;
      }
    }
    return w.behind(n).sum(5) <= v;
  }

  private boolean showsAs(int what, int v, int[] numbers) {
    World w = new World();
    w.tick = world.tick;
    w.lights = world.lights.clone();
    w.lights[what] = v;
    for (int number : numbers) {
      if (number != -1 && number != (w.second() ? 1 : 0)) {
        return false;
      }
      w.pass();
    }
    return true;
  }

  private long actBySeen(String name, int[] a) {
    int[] numbers = page(a[0]).numbers;
    int set = 0;
    int many = 0;
    int first = -1;
    switch (name) {
      case "lags":
        for (int lag = 0; lag <= 23; lag++) {
          set += showsAs(1, lag, numbers) ? 1 << lag : 0;
        }
        return set;
      case "fits": case "pattern":
        for (int pattern = 4095; pattern >= 0; pattern--) {
          if (showsAs(0, pattern, numbers)) {
            many++;
            first = pattern;
          }
        }
        if (name.equals("fits")) {
          return many;
        }
        ask(many > 0, Due.NONE);
        return first;
      default:
        boat(a[1]);
        for (int kind = 0; kind <= 6; kind++) {
          World w = world.copy();
          w.boats.get(a[1]).told[0] = kind;
          boolean so = true;
          for (int number : numbers) {
            so = so && (number == -1 || number == w.boats.get(a[1]).cell());
            w.pass();
          }
          set += so ? 1 << kind : 0;
        }
        return set;
    }
  }

  private long actByNight(String name, int[] a) {
    switch (name) {
      case "nights":
        between(a[0], 1, 20);
        ask(world.tick + a[0] <= 99999, Due.STATE);
        for (int i = 0; i < a[0]; i++) {
          int bit = 1 << world.draw() % 12;
          world.lights[0] += (world.lights[0] & bit) == 0 ? bit : -bit;
          int ship = world.draw() % 8;
          if (ship < world.boats.size() && world.boats.get(ship).speed() < 5) {
            world.boats.get(ship).told[3]++;
          }
          world.pass();
        }
        return world.sum(5);
      case "odds": {
        between(a[0], 0, 17);
        between(a[1], 0, 1);
        int lit = Integer.toBinaryString(world.lights[0]).replace("0", "").length();
        BigInteger above = BigInteger.valueOf(lit).pow(a[0]);
        BigInteger below = BigInteger.valueOf(12).pow(a[0]);
        BigInteger common = above.gcd(below);
        return (a[1] == 0 ? above : below).divide(common).longValueExact();
      }
      default: {
        int was = world.z;
        world.z = a[0];
        return was;
      }
    }
  }

  private long actOnTape(String name, int[] a) {
    int had = tape.size();
    switch (name) {
      case "feed":
        between(a[1], 1, 4);
        ask(had + a[1] <= 120, Due.FULL);
        for (int i = a[1]; i >= 1; i--) {
          tape.add((a[0] >> 8 * (i - 1)) & 255);
        }
        return tape.size();
      case "wipe":
        tape.clear();
        return had;
      default: {
        StringBuilder text = new StringBuilder();
        for (int b : tape) {
          text.append((char) b);
        }
        tape.clear();
        return new Reading(text.toString()).answer();
      }
    }
  }

  /** A text cut into tokens first, then read by its grammar into a copy of the world. */
  private final class Reading {
    final List<String> tokens = new ArrayList<>();
    final List<Integer> places = new ArrayList<>();
    final World then = world.copy();
    int next = 0;

    Reading(String text) {
      java.util.regex.Matcher m =
          java.util.regex.Pattern.compile("(?s)[a-z]+|[0-9]+| +|.").matcher(text);
      while (m.find()) {
        if (!m.group().startsWith(" ")) {
          tokens.add(m.group());
          places.add(m.start());
        }
      }
      tokens.add("");
      places.add(text.length());
    }

    long answer() {
      int items = 0;
      do {
        if (!item()) {
          return -1 - places.get(next);
        }
        items++;
      } while (took(";"));
      if (next != tokens.size() - 1) {
        return -1 - places.get(next);
      }
      world = then;
      return items;
    }

    boolean took(String token) {
      if (!tokens.get(next).equals(token)) {
        return false;
      }
      next++;
      return true;
    }

    int number(int most) {
      if (!tokens.get(next).matches("[0-9]+")) {
        return -1;
      }
      BigInteger v = new BigInteger(tokens.get(next));
      if (v.compareTo(BigInteger.valueOf(most)) > 0) {
        return -1;
      }
      next++;
      return v.intValueExact();
    }

    boolean item() {
      String[] lights = {"pattern", "lag", "book"};
      int[] most = {4095, 23, 1};
      for (int i = 0; i < 3; i++) {
        if (took(lights[i])) {
          int v = number(most[i]);
          if (v >= 0) {
            then.lights[i] = v;
          }
          return v >= 0;
        }
      }
      String[] kinds = {"ship", "tug", "liner", "yacht", "racer", "ghost", "pilot"};
      for (int kind = 0; kind < 7; kind++) {
        if (then.boats.size() < 8 && took(kinds[kind])) {
          Boat b = new Boat();
          b.told[0] = kind;
          b.told[1] = 11;
          then.boats.add(b);
          return parts(b);
        }
      }
      return false;
    }

    boolean parts(Boat b) {
      if (took("at") && (b.told[1] = number(23)) < 0) {
        return false;
      }
      if (took("back")) {
        b.told[2] = 0;
      }
      if (took("speed") && (b.told[3] = number(5)) < 0) {
        return false;
      }
      if (took("port")) {
        b.told[4] = 1;
      }
      return true;
    }
  }

  private long actOnSheets(String name, int[] a) {
    switch (name) {
      case "hold":
        between(a[0], 0, 9);
        if (a[1] != -1) {
          boat(a[1]);
        }
        world.spots[a[0]] = a[1];
        return 1;
      case "as": {
        between(a[0], 0, 9);
        between(a[1], 0, 6);
        ask(world.spots[a[0]] >= 0, Due.MISSING);
        String[] chains = {"0", "10", "20", "320", "4320", "50", "610"};
        String chain = chains[world.boats.get(world.spots[a[0]]).kind()];
        ask(chain.contains(String.valueOf(a[1])), Due.KIND);
        return world.spots[a[0]];
      }
      case "sheet":
        between(a[0], 0, 3);
        ask(List.of(0, 8, 16, 32).contains(a[1]), Due.BEYOND);
        ask(a[2] >= 0, Due.SIZE);
        ask(a[2] <= 40, Due.BEYOND);
        pages[a[0]] = null;
        if (a[1] == 0) {
          return 0;
        }
        pages[a[0]] = new Page();
        pages[a[0]].bits = a[1];
        pages[a[0]].numbers = new int[a[2]];
        return a[2];
      case "write": {
        Page p = page(a[0]);
        between(a[1], 0, p.numbers.length - 1);
        p.numbers[a[1]] = a[2] << (32 - p.bits) >> (32 - p.bits);
        return 1;
      }
      case "copy": {
        between(a[0], 0, 3);
        between(a[2], 0, 3);
        Page p = page(a[0]);
        Page q = page(a[2]);
        ask(p.bits == q.bits, Due.KIND);
        ask(a[1] >= 0 && a[3] >= 0 && a[4] >= 0, Due.BEYOND);
        ask((long) a[1] + a[4] <= p.numbers.length, Due.BEYOND);
        ask((long) a[3] + a[4] <= q.numbers.length, Due.BEYOND);
        int[] were = p.numbers.clone();
        for (int i = 0; i < a[4]; i++) {
          q.numbers[a[3] + i] = were[a[1] + i];
        }
        return a[4];
      }
      case "load": {
        int came = 0;
        for (int v : page(a[0]).numbers) {
          if (v < 0 || v > 5 || came == world.boats.size()) {
            break;
          }
          world.boats.get(came++).told[3] = v;
        }
        return came;
      }
      default: {
        int[] numbers = page(a[0]).numbers;
        for (int i = 0; i < numbers.length; i++) {
          if (i >= world.boats.size() || world.boats.get(i).cell() != numbers[i]) {
            return 1 + i;
          }
        }
        return 0;
      }
    }
  }

  private long actOnImages(String name, int[] a) {
    switch (name) {
      case "image":
        kept = world.copy();
        return 1;
      case "undo":
        ask(kept != null, Due.NONE);
        world = kept.copy();
        return world.tick;
      case "tear": {
        int was = kept == null ? 0 : 1;
        kept = null;
        return was;
      }
      case "count": {
        between(a[0], 0, 7);
        int held = 0;
        for (int spot : world.spots) {
          held += spot == -1 ? 0 : 1;
        }
        return new int[] {world.tick, world.boats.size(), world.sum(5), world.sum(6),
            world.lights[3], tape.size(), world.z, held}[a[0]];
      }
      case "status": {
        between(a[0], -1, 6);
        int all = 0;
        for (int n : found) {
          all += n;
        }
        return a[0] == -1 ? all : found[a[0]];
      }
      default:
        throw new IllegalStateException(name);
    }
  }
}
