/** Two lights, a sea of cells between them, and ships that steer by the lights they see. */
public final class TwinLights {

  private static final int BEYOND = -1000001;
  private static final int FULL = BEYOND - 1;
  private static final int KIND = BEYOND - 2;
  private static final int NONE = BEYOND - 3;
  private static final int STATE = BEYOND - 4;
  private static final int MISSING = BEYOND - 5;
  private static final int SIZE = BEYOND - 6;
  private static final int FINDINGS = 7;

  private static final int MOST_PATTERN = 4095;
  private static final int PATTERN_BITS = 12;
  private static final int MOST_LAG = 23;
  private static final int MOST_PAST = 16777215;
  private static final int MOST_TICK = 99999;

  private static final int FIRST = 1;
  private static final int SECOND = 2;
  private static final int BOTH = 3;

  private static final int LAST_CELL = 23;
  private static final int MIDDLE_CELL = 11;
  private static final int MOST_SHIPS = 8;
  private static final int MOST_SPEED = 5;
  private static final int MOST_TIMES = 9999;
  private static final int MORE_THAN_ALL = MOST_SHIPS * MOST_TIMES + 1;

  private static final int SHIP = 0;
  private static final int TUG = 1;
  private static final int LINER = 2;
  private static final int YACHT = 3;
  private static final int RACER = 4;
  private static final int GHOST = 5;
  private static final int PILOT = 6;
  private static final int LAST_KIND = 6;
  /** The kind that each kind stands under; -1: none. */
  private static final int[] UPPER_KIND = {-1, SHIP, SHIP, LINER, YACHT, SHIP, TUG};

  private static final int MOST_BYTES = 120;
  private static final int LAST_SPOT = 9;
  private static final int LAST_SHEET = 3;
  private static final int MOST_NUMBERS = 40;
  private static final int ANY = -1;

  private static final int FARTHEST_LOOK = 200;
  private static final int MOST_PATTERN_TICKS = 12;

  private final Sea sea = new Sea();
  private final Sea kept = new Sea();
  private boolean keeps = false;

  private final Tape tape = new Tape();
  private final Sheet[] sheets = new Sheet[LAST_SHEET + 1];
  private final int[] findings = new int[FINDINGS];

  // What would be is tried out on these, made once, so that no call makes objects.
  private final Sea draft = new Sea();
  private final Lights trialLights = new Lights();
  private final Ship trialShip = new Ship();
  private final Ship otherShip = new Ship();
  private final int[] gains = new int[MOST_SHIPS];
  private final Demand demand = new Demand();
  private final PatternSearch search = new PatternSearch();

  public TwinLights() {
    for (int s = 0; s <= LAST_SHEET; s++) {
      sheets[s] = new Sheet();
    }
  }

  // ---- lights, ships

  public int set(int what, int v) {
    if (!Lights.mayBecome(what, v)) {
      return found(BEYOND);
    }
    int was = sea.lights.told(what);
    sea.lights.become(what, v);
    return was;
  }

  public int light(int what) {
    return within(what, 0, 5) ? sea.lights.told(what) : found(BEYOND);
  }

  public int ship(int kind, int cell) {
    if (!within(kind, 0, LAST_KIND) || !within(cell, 0, LAST_CELL)) {
      return found(BEYOND);
    }
    if (sea.fleet.isFull()) {
      return found(FULL);
    }
    sea.fleet.launch(kind, cell);
    return sea.fleet.size - 1;
  }

  public int of(int ship, int what) {
    if (!isShip(ship) || !within(what, 0, 8)) {
      return found(BEYOND);
    }
    Ship one = sea.fleet.ships[ship];
    if (what == 7) {
      return one.cellsToGo(sea.lights.tick);
    }
    if (what == 8) {
      return one.seen(sea.lights.shownAhead(0), sea.lights.tick);
    }
    return one.told(what);
  }

  public int change(int ship, int what, int v) {
    if (!isShip(ship) || !Ship.mayBecome(what, v)) {
      return found(BEYOND);
    }
    Ship one = sea.fleet.ships[ship];
    int was = one.told(what);
    one.become(what, v);
    return was;
  }

  public int who(int cell) {
    return within(cell, 0, LAST_CELL) ? sea.fleet.shipsAt(cell) : found(BEYOND);
  }

  // ---- ticks

  public int go(int n) {
    if (!within(n, 1, 60)) {
      return found(BEYOND);
    }
    if (sea.lights.tick + n > MOST_TICK) {
      return found(STATE);
    }
    for (int i = 0; i < n; i++) {
      sea.passTick();
    }
    return sea.fleet.strandedOfAll();
  }

  public int now(int what) {
    switch (what) {
      case 0: return sea.lights.tick;
      case 1: return sea.fleet.strandedOfAll();
      case 2: return sea.fleet.sawOfAll();
      case 3: return sea.fleet.shipsInPort();
      case 4: return sea.fleet.cellsTaken();
      case 5: return sea.fleet.nearestToFirst();
      case 6: return Integer.bitCount(sea.lights.past);
      default: return found(BEYOND);
    }
  }

  // ---- what will be (nothing changes)

  public int ahead(int ship, int what, int n) {
    boolean told = what == 1 || what == 2 || what == 5 || what == 6;
    if (!isShip(ship) || !told || !within(n, 0, 100)) {
      return found(BEYOND);
    }
    trialShip.take(sea.fleet.ships[ship]);
    trialShip.sailOn(sea.lights, n);
    return trialShip.told(what);
  }

  public int shows(int which, int n) {
    if (!within(which, 0, 1) || !within(n, 0, 100)) {
      return found(BEYOND);
    }
    return which == 0 ? sea.lights.firstAhead(n) : sea.lights.secondAhead(n);
  }

  public int strands(int ship) {
    if (!isShip(ship)) {
      return found(BEYOND);
    }
    trialShip.take(sea.fleet.ships[ship]);
    int before = trialShip.stranded;
    for (int n = 1; n <= FARTHEST_LOOK; n++) {
      sailTick(trialShip, n - 1);
      if (trialShip.stranded > before) {
        return n;
      }
    }
    return found(NONE);
  }

  public int when(int ship, int cell) {
    if (!isShip(ship) || !within(cell, 0, LAST_CELL)) {
      return found(BEYOND);
    }
    trialShip.take(sea.fleet.ships[ship]);
    for (int n = 0; n <= FARTHEST_LOOK; n++) {
      if (trialShip.cell == cell) {
        return n;
      }
      sailTick(trialShip, n);
    }
    return found(NONE);
  }

  public int meet(int a, int b) {
    if (!isShip(a) || !isShip(b) || a == b) {
      return found(BEYOND);
    }
    trialShip.take(sea.fleet.ships[a]);
    otherShip.take(sea.fleet.ships[b]);
    for (int n = 0; n <= FARTHEST_LOOK; n++) {
      if (trialShip.cell == otherShip.cell) {
        return n;
      }
      sailTick(trialShip, n);
      sailTick(otherShip, n);
    }
    return found(NONE);
  }

  public int period() {
    int pattern = sea.lights.pattern;
    for (int n = 1; n < PATTERN_BITS; n++) {
      int turned = (pattern << n | pattern >> (PATTERN_BITS - n)) & MOST_PATTERN;
      if (turned == pattern) {
        return n;
      }
    }
    return PATTERN_BITS;
  }

  // ---- how to shine

  public int lagFor(int n) {
    if (!within(n, 0, 60)) {
      return found(BEYOND);
    }
    trialLights.take(sea.lights);
    int best = 0;
    int fewest = MORE_THAN_ALL;
    for (int lag = 0; lag <= MOST_LAG; lag++) {
      trialLights.lag = lag;
      draft.fleet.take(sea.fleet);
      draft.fleet.sailOn(trialLights, n);
      int stranded = draft.fleet.strandedOfAll();
      if (stranded < fewest) {
        fewest = stranded;
        best = lag;
      }
    }
    return best;
  }

  public int patternFor(int n) {
    return within(n, 0, MOST_PATTERN_TICKS) ? search.leastPattern(sea, n) : found(BEYOND);
  }

  public int kindFor(int ship, int n) {
    if (!isShip(ship) || !within(n, 0, 60)) {
      return found(BEYOND);
    }
    return bestToBecome(ship, 0, LAST_KIND, n);
  }

  public int start(int ship, int n) {
    if (!isShip(ship) || !within(n, 0, 60)) {
      return found(BEYOND);
    }
    return bestToBecome(ship, 1, LAST_CELL, n);
  }

  public int speedFor(int ship, int n) {
    if (!isShip(ship) || !within(n, 0, 60)) {
      return found(BEYOND);
    }
    for (int speed = MOST_SPEED; speed >= 0; speed--) {
      if (strandedWith(ship, 3, speed, n) == sea.fleet.ships[ship].stranded) {
        return speed;
      }
    }
    return found(NONE);
  }

  public int keepIn(int v, int n) {
    if (!within(v, 0, MOST_TIMES) || !within(n, 0, 20)) {
      return found(BEYOND);
    }
    Fleet fleet = sea.fleet;
    for (int i = 0; i < fleet.size; i++) {
      trialShip.take(fleet.ships[i]);
      trialShip.sailOn(sea.lights, n);
      gains[i] = trialShip.stranded - fleet.ships[i].stranded;
    }
    int best = fewestToKeep(fleet.size, v - fleet.strandedOfAll());
    return best >= 0 ? best : found(NONE);
  }

  // ---- by what was seen

  public int lags(int s) {
    int trouble = troubleWith(s);
    if (trouble != 0) {
      return found(trouble);
    }
    trialLights.take(sea.lights);
    int set = 0;
    for (int lag = 0; lag <= MOST_LAG; lag++) {
      trialLights.lag = lag;
      if (secondShowsAs(sheets[s], trialLights)) {
        set |= 1 << lag;
      }
    }
    return set;
  }

  public int fits(int s) {
    int trouble = troubleWith(s);
    if (trouble != 0) {
      return found(trouble);
    }
    demand.hear(sheets[s], sea.lights);
    return demand.canBeMet() ? 1 << demand.freeBits() : 0;
  }

  public int pattern(int s) {
    int trouble = troubleWith(s);
    if (trouble != 0) {
      return found(trouble);
    }
    demand.hear(sheets[s], sea.lights);
    return demand.canBeMet() ? demand.lit : found(NONE);
  }

  public int kinds(int s, int ship) {
    int trouble = troubleWith(s);
    if (trouble != 0) {
      return found(trouble);
    }
    if (!isShip(ship)) {
      return found(BEYOND);
    }
    int set = 0;
    for (int kind = 0; kind <= LAST_KIND; kind++) {
      trialShip.take(sea.fleet.ships[ship]);
      trialShip.kind = kind;
      if (sailsAs(sheets[s], trialShip)) {
        set |= 1 << kind;
      }
    }
    return set;
  }

  // ---- nights

  public int nights(int n) {
    if (!within(n, 1, 20)) {
      return found(BEYOND);
    }
    if (sea.lights.tick + n > MOST_TICK) {
      return found(STATE);
    }
    for (int i = 0; i < n; i++) {
      sea.passNight();
    }
    return sea.fleet.strandedOfAll();
  }

  public long odds(int n, int what) {
    if (!within(n, 0, 17) || !within(what, 0, 1)) {
      return found(BEYOND);
    }
    int lit = Integer.bitCount(sea.lights.pattern);
    return power(what == 0 ? lowered(lit, PATTERN_BITS) : lowered(PATTERN_BITS, lit), n);
  }

  public int seed(int v) {
    int was = sea.z;
    sea.z = v;
    return was;
  }

  // ---- texts

  public int feed(int bytes, int n) {
    if (!within(n, 1, 4)) {
      return found(BEYOND);
    }
    if (tape.size + n > MOST_BYTES) {
      return found(FULL);
    }
    for (int i = n - 1; i >= 0; i--) {
      tape.add(bytes >>> 8 * i & 255);
    }
    return tape.size;
  }

  public int wipe() {
    int had = tape.size;
    tape.size = 0;
    return had;
  }

  public int text() {
    // Read into a draft, so that a fault leaves the sea as it was.
    draft.take(sea);
    int answer = tape.readText(draft);
    if (answer >= 0) {
      sea.take(draft);
    }
    tape.size = 0;
    return answer;
  }

  // ---- spots, sheets

  public int hold(int spot, int ship) {
    if (!within(spot, 0, LAST_SPOT) || ship != -1 && !isShip(ship)) {
      return found(BEYOND);
    }
    sea.spots[spot] = ship;
    return 1;
  }

  public int as(int spot, int kind) {
    if (!within(spot, 0, LAST_SPOT) || !within(kind, 0, LAST_KIND)) {
      return found(BEYOND);
    }
    int ship = sea.spots[spot];
    if (!isShip(ship)) {
      return found(MISSING);
    }
    return isUnder(sea.fleet.ships[ship].kind, kind) ? ship : found(KIND);
  }

  public int sheet(int s, int bits, int n) {
    boolean known = bits == 0 || bits == 8 || bits == 16 || bits == 32;
    if (!within(s, 0, LAST_SHEET) || !known) {
      return found(BEYOND);
    }
    if (n < 0) {
      return found(SIZE);
    }
    if (n > MOST_NUMBERS) {
      return found(BEYOND);
    }
    sheets[s].renew(bits, n);
    return sheets[s].size;
  }

  public int write(int s, int i, int v) {
    int trouble = troubleWith(s);
    if (trouble != 0) {
      return found(trouble);
    }
    if (!within(i, 0, sheets[s].size - 1)) {
      return found(BEYOND);
    }
    sheets[s].put(i, v);
    return 1;
  }

  public int copy(int s, int from, int t, int to, int n) {
    int trouble = troubleWithEither(s, t);
    if (trouble != 0) {
      return found(trouble);
    }
    if (sheets[s].bits != sheets[t].bits) {
      return found(KIND);
    }
    if (!sheets[s].hasPart(from, n) || !sheets[t].hasPart(to, n)) {
      return found(BEYOND);
    }
    System.arraycopy(sheets[s].numbers, from, sheets[t].numbers, to, n);
    return n;
  }

  public int load(int s) {
    int trouble = troubleWith(s);
    if (trouble != 0) {
      return found(trouble);
    }
    int came = 0;
    while (came < sheets[s].size && isShip(came)
        && within(sheets[s].numbers[came], 0, MOST_SPEED)) {
      sea.fleet.ships[came].speed = sheets[s].numbers[came];
      came++;
    }
    return came;
  }

  public int judge(int s) {
    int trouble = troubleWith(s);
    if (trouble != 0) {
      return found(trouble);
    }
    for (int i = 0; i < sheets[s].size; i++) {
      if (!isShip(i) || sea.fleet.ships[i].cell != sheets[s].numbers[i]) {
        return 1 + i;
      }
    }
    return 0;
  }

  // ---- images

  public int image() {
    kept.take(sea);
    keeps = true;
    return 1;
  }

  public int undo() {
    if (!keeps) {
      return found(NONE);
    }
    sea.take(kept);
    return sea.lights.tick;
  }

  public int tear() {
    int had = keeps ? 1 : 0;
    keeps = false;
    return had;
  }

  public int count(int what) {
    switch (what) {
      case 0: return sea.lights.tick;
      case 1: return sea.fleet.size;
      case 2: return sea.fleet.strandedOfAll();
      case 3: return sea.fleet.sawOfAll();
      case 4: return sea.lights.past;
      case 5: return tape.size;
      case 6: return sea.z;
      case 7: return sea.spotsTaken();
      default: return found(BEYOND);
    }
  }

  public int status(int which) {
    if (!within(which, -1, FINDINGS - 1)) {
      return found(BEYOND);
    }
    if (which >= 0) {
      return findings[which];
    }
    int all = 0;
    for (int i = 0; i < FINDINGS; i++) {
      all += findings[i];
    }
    return all;
  }

  // ---- helpers of the face

  /** Every finding goes out through here, so that status() knows it. */
  private int found(int finding) {
    int place = BEYOND - finding;
    if (within(place, 0, FINDINGS - 1)) {
      findings[place]++;
    }
    return finding;
  }

  private static boolean within(int v, int least, int most) {
    return v >= least && v <= most;
  }

  private boolean isShip(int ship) {
    return within(ship, 0, sea.fleet.size - 1);
  }

  /** The finding that a sheet's number earns, or 0. */
  private int troubleWith(int s) {
    if (!within(s, 0, LAST_SHEET)) {
      return BEYOND;
    }
    return sheets[s].isMissing() ? MISSING : 0;
  }

  /** Both numbers are looked at before either sheet is. */
  private int troubleWithEither(int s, int t) {
    if (!within(s, 0, LAST_SHEET) || !within(t, 0, LAST_SHEET)) {
      return BEYOND;
    }
    return sheets[s].isMissing() || sheets[t].isMissing() ? MISSING : 0;
  }

  /** The tick behind n others goes by for a ship, under the lights as they are. */
  private void sailTick(Ship one, int n) {
    one.sail(sea.lights.shownAhead(n), sea.lights.tickAhead(n));
  }

  /** STRANDED of a ship behind n ticks, if what (as in change()) of it were v now. */
  private int strandedWith(int ship, int what, int v, int n) {
    trialShip.take(sea.fleet.ships[ship]);
    trialShip.become(what, v);
    trialShip.sailOn(sea.lights, n);
    return trialShip.stranded;
  }

  /** The least v, 0 to most, for what of a ship with which it strands least in n ticks. */
  private int bestToBecome(int ship, int what, int most, int n) {
    int best = 0;
    int fewest = MORE_THAN_ALL;
    for (int v = 0; v <= most; v++) {
      int stranded = strandedWith(ship, what, v, n);
      if (stranded < fewest) {
        fewest = stranded;
        best = v;
      }
    }
    return best;
  }

  /** The smallest set of ships without whose gains the others gain no more than room; or -1. */
  private int fewestToKeep(int ships, int room) {
    int best = -1;
    int fewest = ships + 1;
    for (int set = 0; set < 1 << ships; set++) {
      int size = Integer.bitCount(set);
      if (size < fewest && gainWithout(set, ships) <= room) {
        best = set;
        fewest = size;
      }
    }
    return best;
  }

  private int gainWithout(int set, int ships) {
    int gain = 0;
    for (int i = 0; i < ships; i++) {
      if ((set >> i & 1) == 0) {
        gain += gains[i];
      }
    }
    return gain;
  }

  private static boolean secondShowsAs(Sheet sheet, Lights lights) {
    for (int i = 0; i < sheet.size; i++) {
      int number = sheet.numbers[i];
      if (number != ANY && number != lights.secondAhead(i)) {
        return false;
      }
    }
    return true;
  }

  private boolean sailsAs(Sheet sheet, Ship one) {
    for (int i = 0; i < sheet.size; i++) {
      int number = sheet.numbers[i];
      if (number != ANY && number != one.cell) {
        return false;
      }
      sailTick(one, i);
    }
    return true;
  }

  private static boolean isUnder(int kind, int upper) {
    int k = kind;
    for (int i = 0; i <= LAST_KIND && within(k, 0, LAST_KIND); i++) {
      if (k == upper) {
        return true;
      }
      k = UPPER_KIND[k];
    }
    return false;
  }

  /** One side of a fraction in lowest terms; neither side is above the number of bits. */
  private static int lowered(int side, int other) {
    for (int d = PATTERN_BITS; d > 1; d--) {
      if (side % d == 0 && other % d == 0) {
        return side / d;
      }
    }
    return side;
  }

  private static long power(int base, int n) {
    long product = 1;
    for (int i = 0; i < n; i++) {
      product *= base;
    }
    return product;
  }

  /** The two lights and the tick that they are at. */
  private static final class Lights {
    int pattern = 5;
    int lag = 4;
    int book = 1;
    int past = 0;
    int tick = 0;

    void take(Lights other) {
      pattern = other.pattern;
      lag = other.lag;
      book = other.book;
      past = other.past;
      tick = other.tick;
    }

    static boolean mayBecome(int what, int v) {
      switch (what) {
        case 0: return within(v, 0, MOST_PATTERN);
        case 1: return within(v, 0, MOST_LAG);
        case 2: return within(v, 0, 1);
        case 3: return within(v, 0, MOST_PAST);
        default: return false;
      }
    }

    void become(int what, int v) {
      switch (what) {
        case 0: pattern = v; break;
        case 1: lag = v; break;
        case 2: book = v; break;
        default: past = v; break;
      }
    }

    int told(int what) {
      switch (what) {
        case 0: return pattern;
        case 1: return lag;
        case 2: return book;
        case 3: return past;
        case 4: return firstAhead(0);
        default: return secondAhead(0);
      }
    }

    int tickAhead(int n) {
      return Math.min(tick + n, MOST_TICK);
    }

    /** The bit of THE PATTERN that the tick behind n others shows. */
    int bitAhead(int n) {
      return 1 << tickAhead(n) % PATTERN_BITS;
    }

    int firstAhead(int n) {
      return pattern >> tickAhead(n) % PATTERN_BITS & 1;
    }

    int secondAhead(int n) {
      return (shownAhead(n) & SECOND) != 0 ? 1 : 0;
    }

    /**
     * How many ticks on THE FIRST shows what THE SECOND shows n ticks on; below 0 it has shown it
     * already: -1 is bit 0 of THE PAST, for a tick's own bit is in THE PAST before it is answered.
     */
    int ticksToSource(int n) {
      return book == 1 ? n - lag : n;
    }

    /** Which lights are shown on the tick behind n others. */
    int shownAhead(int n) {
      int source = ticksToSource(n);
      int second = source >= 0 ? firstAhead(source) : past >> (-1 - source) & 1;
      return (firstAhead(n) == 1 ? FIRST : 0) | (second == 1 ? SECOND : 0);
    }

    void passTick() {
      past = (past << 1 | firstAhead(0)) & MOST_PAST;
      tick = tickAhead(1);
    }
  }

  private static final class Ship {
    int kind;
    int cell;
    int way;
    int speed;
    int port;
    int stranded;
    int saw;

    void renew(int newKind, int newCell) {
      kind = newKind;
      cell = newCell;
      way = 1;
      speed = 1;
      port = 0;
      stranded = 0;
      saw = 0;
    }

    void take(Ship other) {
      kind = other.kind;
      cell = other.cell;
      way = other.way;
      speed = other.speed;
      port = other.port;
      stranded = other.stranded;
      saw = other.saw;
    }

    static boolean mayBecome(int what, int v) {
      switch (what) {
        case 0: return within(v, 0, LAST_KIND);
        case 1: return within(v, 0, LAST_CELL);
        case 2: return within(v, 0, 1);
        case 3: return within(v, 0, MOST_SPEED);
        case 4: return within(v, 0, 1);
        case 5: return within(v, 0, MOST_TIMES);
        case 6: return within(v, 0, MOST_TIMES);
        default: return false;
      }
    }

    void become(int what, int v) {
      switch (what) {
        case 0: kind = v; break;
        case 1: cell = v; break;
        case 2: way = v; break;
        case 3: speed = v; break;
        case 4: port = v; break;
        case 5: stranded = v; break;
        default: saw = v; break;
      }
    }

    int told(int what) {
      switch (what) {
        case 0: return kind;
        case 1: return cell;
        case 2: return way;
        case 3: return speed;
        case 4: return port;
        case 5: return stranded;
        default: return saw;
      }
    }

    /** Which lights it sees, of those that are shown. */
    int seen(int shown, int tick) {
      boolean even = tick % 2 == 0;
      switch (kind) {
        case TUG: return shown & lightsNear();
        case PILOT: return cell % 2 == 0 ? shown : shown & lightsNear();
        case LINER: return even ? shown : 0;
        case YACHT: return even || speed <= 1 ? shown : 0;
        case RACER: return shown & SECOND;
        case GHOST: return shown ^ BOTH;
        default: return shown;
      }
    }

    private int lightsNear() {
      return (cell <= 8 ? FIRST : 0) | (LAST_CELL - cell <= 8 ? SECOND : 0);
    }

    int cellsToGo(int tick) {
      int yachtGoes = tick % 2 == 0 ? speed + 1 : speed;
      int tugGoes = speed > 0 ? 1 : 0;
      switch (kind) {
        case TUG: return tugGoes;
        case PILOT: return 2 * tugGoes;
        case LINER: return speed + 1;
        case YACHT: return yachtGoes;
        case RACER: return yachtGoes + 2;
        default: return speed;
      }
    }

    /** A tick goes by, on which these lights are shown. */
    void sail(int shown, int tick) {
      if (port == 1) {
        return;
      }
      int seen = seen(shown, tick);
      if (seen == FIRST) {
        way = 1;
      } else if (seen == SECOND) {
        way = 0;
      }
      saw = Math.min(saw + Integer.bitCount(seen), MOST_TIMES);
      if (seen != BOTH) {
        move(cellsToGo(tick));
      }
    }

    void sailOn(Lights lights, int n) {
      for (int i = 0; i < n; i++) {
        sail(lights.shownAhead(i), lights.tickAhead(i));
      }
    }

    private void move(int cells) {
      cell = way == 1 ? Math.min(cell + cells, LAST_CELL) : Math.max(cell - cells, 0);
      if (cells > 0 && (cell == 0 || cell == LAST_CELL)) {
        stranded = Math.min(stranded + 1, MOST_TIMES);
        cell = MIDDLE_CELL;
        way = 1 - way;
      }
    }
  }

  private static final class Fleet {
    final Ship[] ships = new Ship[MOST_SHIPS];
    int size = 0;

    Fleet() {
      for (int i = 0; i < MOST_SHIPS; i++) {
        ships[i] = new Ship();
      }
    }

    void take(Fleet other) {
      size = other.size;
      for (int i = 0; i < size; i++) {
        ships[i].take(other.ships[i]);
      }
    }

    boolean isFull() {
      return size >= MOST_SHIPS;
    }

    void launch(int kind, int cell) {
      if (!isFull()) {
        ships[size].renew(kind, cell);
        size++;
      }
    }

    void sail(int shown, int tick) {
      for (int i = 0; i < size; i++) {
        ships[i].sail(shown, tick);
      }
    }

    void sailOn(Lights lights, int n) {
      for (int i = 0; i < n; i++) {
        sail(lights.shownAhead(i), lights.tickAhead(i));
      }
    }

    int strandedOfAll() {
      int all = 0;
      for (int i = 0; i < size; i++) {
        all += ships[i].stranded;
      }
      return all;
    }

    int sawOfAll() {
      int all = 0;
      for (int i = 0; i < size; i++) {
        all += ships[i].saw;
      }
      return all;
    }

    int shipsInPort() {
      int set = 0;
      for (int i = 0; i < size; i++) {
        set |= ships[i].port << i;
      }
      return set;
    }

    int shipsAt(int cell) {
      int set = 0;
      for (int i = 0; i < size; i++) {
        if (ships[i].port == 0 && ships[i].cell == cell) {
          set |= 1 << i;
        }
      }
      return set;
    }

    int cellsTaken() {
      int set = 0;
      for (int i = 0; i < size; i++) {
        if (ships[i].port == 0) {
          set |= 1 << ships[i].cell;
        }
      }
      return set;
    }

    int nearestToFirst() {
      int nearest = -1;
      int least = LAST_CELL + 1;
      for (int i = 0; i < size; i++) {
        if (ships[i].port == 0 && ships[i].cell < least) {
          least = ships[i].cell;
          nearest = i;
        }
      }
      return nearest;
    }
  }

  /** All that an image keeps. */
  private static final class Sea {
    final Lights lights = new Lights();
    final Fleet fleet = new Fleet();
    final int[] spots = new int[LAST_SPOT + 1];
    int z = 1;

    Sea() {
      for (int i = 0; i <= LAST_SPOT; i++) {
        spots[i] = -1;
      }
    }

    void take(Sea other) {
      lights.take(other.lights);
      fleet.take(other.fleet);
      System.arraycopy(other.spots, 0, spots, 0, LAST_SPOT + 1);
      z = other.z;
    }

    void passTick() {
      fleet.sail(lights.shownAhead(0), lights.tick);
      lights.passTick();
    }

    void passNight() {
      lights.pattern ^= 1 << draw() % PATTERN_BITS;
      int number = draw() % MOST_SHIPS;
      if (number < fleet.size) {
        Ship one = fleet.ships[number];
        one.speed = Math.min(one.speed + 1, MOST_SPEED);
      }
      passTick();
    }

    private int draw() {
      z = z * 1103515245 + 12345;
      return z >>> 8;
    }

    int spotsTaken() {
      int taken = 0;
      for (int i = 0; i <= LAST_SPOT; i++) {
        taken += spots[i] >= 0 ? 1 : 0;
      }
      return taken;
    }
  }

  /**
   * Looks for the pattern with which the ships strand least. It goes tick by tick and tries each
   * tick's bit dark and lit, so that patterns that begin alike sail their begin only once.
   */
  private static final class PatternSearch {
    final Lights lights = new Lights();
    /** Fleet d: the ships behind d ticks, with the bits that are being tried. */
    final Fleet[] fleets = new Fleet[MOST_PATTERN_TICKS + 1];
    int ticks;
    int best;
    int fewest;

    PatternSearch() {
      for (int i = 0; i <= MOST_PATTERN_TICKS; i++) {
        fleets[i] = new Fleet();
      }
    }

    int leastPattern(Sea sea, int n) {
      lights.take(sea.lights);
      fleets[0].take(sea.fleet);
      ticks = Math.min(n, MOST_PATTERN_TICKS);
      best = 0;
      fewest = MORE_THAN_ALL;
      tryFrom(0, 0);
      return best;
    }

    /** Bits that no tick has shown yet are 0 in pattern, which is thus the least of its like. */
    private void tryFrom(int depth, int pattern) {
      int stranded = fleets[depth].strandedOfAll();
      // STRANDED never falls: from here on nothing gets better than the best.
      if (stranded > fewest || stranded == fewest && pattern >= best) {
        return;
      }
      if (depth >= ticks) {
        fewest = stranded;
        best = pattern;
        return;
      }
      tryBit(depth, pattern);
      tryBit(depth, pattern | lights.bitAhead(depth));
    }

    private void tryBit(int depth, int pattern) {
      lights.pattern = pattern;
      fleets[depth + 1].take(fleets[depth]);
      fleets[depth + 1].sail(lights.shownAhead(depth), lights.tickAhead(depth));
      tryFrom(depth + 1, pattern);
    }
  }

  /** What a sheet, told of THE SECOND, asks of the bits of the pattern. */
  private static final class Demand {
    int lit;
    int dark;
    boolean refused;

    void hear(Sheet sheet, Lights lights) {
      lit = 0;
      dark = 0;
      refused = false;
      for (int i = 0; i < sheet.size; i++) {
        if (sheet.numbers[i] != ANY) {
          hearOne(sheet.numbers[i], i, lights);
        }
      }
    }

    private void hearOne(int number, int n, Lights lights) {
      int source = lights.ticksToSource(n);
      if (!within(number, 0, 1)) {
        refused = true;
      } else if (source < 0) {
        // THE PAST answers there, whatever the pattern is.
        refused |= number != lights.secondAhead(n);
      } else if (number == 1) {
        lit |= lights.bitAhead(source);
      } else {
        dark |= lights.bitAhead(source);
      }
    }

    boolean canBeMet() {
      return !refused && (lit & dark) == 0;
    }

    int freeBits() {
      return PATTERN_BITS - Integer.bitCount(lit | dark);
    }
  }

  private static final class Sheet {
    final int[] numbers = new int[MOST_NUMBERS];
    int bits = 0;
    int size = 0;

    boolean isMissing() {
      return bits == 0;
    }

    void renew(int newBits, int newSize) {
      bits = newBits;
      size = newBits == 0 ? 0 : newSize;
      for (int i = 0; i < MOST_NUMBERS; i++) {
        numbers[i] = 0;
      }
    }

    void put(int i, int v) {
      if (bits == 8) {
        numbers[i] = (byte) v;
      } else if (bits == 16) {
        numbers[i] = (short) v;
      } else {
        numbers[i] = v;
      }
    }

    /** The sum of two ints can wrap round; this difference can't. */
    boolean hasPart(int from, int n) {
      return from >= 0 && n >= 0 && from <= size - n;
    }
  }

  /** THE TAPE, and the reader of a TEXT on it: token by token, up to the first that can't stand. */
  private static final class Tape {
    private static final int END = 0;
    private static final int WORD = 1;
    private static final int NUMBER = 2;
    private static final int SIGN = 3;
    private static final int OTHER = 4;
    private static final int TOO_GREAT = 10000;

    final int[] bytes = new int[MOST_BYTES];
    int size = 0;

    /** The token that is read next: what it is, where it begins, and where it has ended. */
    int type;
    int begin;
    int end;
    int value;

    void add(int b) {
      if (size < MOST_BYTES) {
        bytes[size] = b;
        size++;
      }
    }

    /** How many items it told the sea; with a fault -1 less its place. */
    int readText(Sea sea) {
      end = 0;
      nextToken();
      for (int items = 1; items <= MOST_BYTES && readItem(sea); items++) {
        if (type == END) {
          return items;
        }
        if (type != SIGN) {
          break;
        }
        nextToken();
      }
      return -1 - begin;
    }

    /** True if it stands; else the token that is read next can't stand there. */
    private boolean readItem(Sea sea) {
      int kind = kindOfWord();
      if (kind >= 0) {
        return readShip(sea.fleet, kind);
      }
      if (isWord("pattern")) {
        return readLight(sea.lights, 0);
      }
      if (isWord("lag")) {
        return readLight(sea.lights, 1);
      }
      return isWord("book") && readLight(sea.lights, 2);
    }

    private int kindOfWord() {
      if (isWord("ship")) {
        return SHIP;
      }
      if (isWord("tug")) {
        return TUG;
      }
      if (isWord("liner")) {
        return LINER;
      }
      if (isWord("yacht")) {
        return YACHT;
      }
      if (isWord("racer")) {
        return RACER;
      }
      if (isWord("ghost")) {
        return GHOST;
      }
      return isWord("pilot") ? PILOT : -1;
    }

    private boolean readLight(Lights lights, int what) {
      nextToken();
      if (type != NUMBER || !Lights.mayBecome(what, value)) {
        return false;
      }
      lights.become(what, value);
      nextToken();
      return true;
    }

    private boolean readShip(Fleet fleet, int kind) {
      if (fleet.isFull()) {
        return false;
      }
      Ship one = fleet.ships[fleet.size];
      fleet.launch(kind, MIDDLE_CELL);
      nextToken();
      if (isWord("at") && !readPart(one, 1)) {
        return false;
      }
      if (isWord("back")) {
        one.way = 0;
        nextToken();
      }
      if (isWord("speed") && !readPart(one, 3)) {
        return false;
      }
      if (isWord("port")) {
        one.port = 1;
        nextToken();
      }
      return true;
    }

    private boolean readPart(Ship one, int what) {
      nextToken();
      if (type != NUMBER || !Ship.mayBecome(what, value)) {
        return false;
      }
      one.become(what, value);
      nextToken();
      return true;
    }

    private boolean isWord(String word) {
      if (type != WORD || end - begin != word.length()) {
        return false;
      }
      for (int i = 0; i < word.length(); i++) {
        if (bytes[begin + i] != word.charAt(i)) {
          return false;
        }
      }
      return true;
    }

    private void nextToken() {
      begin = end;
      while (begin < size && bytes[begin] == ' ') {
        begin++;
      }
      end = begin;
      if (begin >= size) {
        type = END;
        return;
      }
      type = typeOf(bytes[begin]);
      end++;
      boolean grows = type == WORD || type == NUMBER;
      while (grows && end < size && typeOf(bytes[end]) == type) {
        end++;
      }
      if (type == NUMBER) {
        value = numberRead();
      }
    }

    private static int typeOf(int b) {
      if (b >= 'a' && b <= 'z') {
        return WORD;
      }
      if (b >= '0' && b <= '9') {
        return NUMBER;
      }
      return b == ';' ? SIGN : OTHER;
    }

    private int numberRead() {
      int number = 0;
      for (int i = begin; i < end; i++) {
        // One that is too great stays so, however many digits follow.
        number = Math.min(number * 10 + bytes[i] - '0', TOO_GREAT);
      }
      return number;
    }
  }
}
