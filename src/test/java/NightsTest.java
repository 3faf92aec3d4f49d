/** Promises 26 and 27: nights, odds. */
public final class NightsTest {
  public static void main(String[] args) {
    nightsByHand();
    nightsAtOnce();
    oddsByHand();
    Due.end();
  }

  private static void nightsByHand() {
    // From 1 the draws, by 12: 2, 8, 0, 11, 7, 0, 10, 2, 4, 9, 6, 0; by 8: 6, 0, 4, 3, 7, 4, 6,
    // 6, 4, 5, 2, 4. So the bits turned are 2, 0, 7, 10, 4, 6, the ships 0, 3, 4, 6, 5, 4.
    TwinLights x = new TwinLights();
    x.ship(0, 11);
    int[] patterns = {0b1, 0b0, 0b10000000, 0b10010000000, 0b10010010000, 0b10011010000};
    int[] cells = {13, 15, 17, 19, 19, 21};
    int[] saw = {1, 1, 1, 1, 3, 3};
    int[] seeds = {-1770082073, -999580867, -1778682749, -1661227463, 267834847, 836760821};
    for (int i = 0; i < patterns.length; i++) {
      Due.is("nights(1)", x.nights(1), 0);
      Due.is("light(0)", x.light(0), patterns[i]);
      Due.is("of(0, 3)", x.of(0, 3), 2);
      Due.ship("night " + i, x, 0, cells[i], 1, 0, saw[i]);
      Due.is("count(0)", x.count(0), i + 1);
      Due.is("count(6)", x.count(6), seeds[i]);
    }
    Due.is("nights(1)", x.nights(1) - x.now(1), 0);
  }

  private static void nightsAtOnce() {
    TwinLights x = eight();
    TwinLights y = eight();
    Due.is("of(4, 3)", x.of(4, 3), 1);
    int last = 0;
    for (int i = 0; i < 20; i++) {
      last = x.nights(1);
    }
    Due.is("nights(20)", y.nights(20), last);
    Due.same("nights(20)", Due.all(y), Due.all(x));
    Due.is("the answer is STRANDED of all together", y.now(1), last);
    TwinLights z = eight();
    z.nights(6);
    int[] speeds = {2, 1, 1, 2, 3, 2, 2, 1};
    for (int ship = 0; ship < 8; ship++) {
      Due.is("of(" + ship + ", 3) behind six nights", z.of(ship, 3), speeds[ship]);
    }
  }

  private static TwinLights eight() {
    return Due.told("ship;tug;liner at 3;yacht at 20;racer;ghost at 2;pilot at 17;ship port");
  }

  private static void oddsByHand() {
    TwinLights x = new TwinLights();
    Due.is("odds(0, 0)", x.odds(0, 0), 1);
    Due.is("odds(0, 1)", x.odds(0, 1), 1);
    Due.is("odds(1, 0) of 2 in 12", x.odds(1, 0), 1);
    Due.is("odds(1, 1) of 2 in 12", x.odds(1, 1), 6);
    Due.is("odds(17, 1) of 2 in 12", x.odds(17, 1), 16926659444736L);
    long[][] due = {
      {0, 0, 1}, {1, 1, 2218611106740436992L}, {2, 1, 16926659444736L}, {3, 1, 17179869184L},
      {4, 1, 129140163L}, {5, 762939453125L, 2218611106740436992L}, {6, 1, 131072},
      {7, 232630513987207L, 2218611106740436992L}, {8, 131072, 129140163},
      {9, 129140163L, 17179869184L}, {10, 762939453125L, 16926659444736L},
      {11, 505447028499293771L, 2218611106740436992L}, {12, 1, 1},
    };
    for (long[] row : due) {
      int lit = (int) row[0];
      x.set(0, (1 << lit) - 1);
      Due.is("odds(17, 0) of " + lit, x.odds(17, 0), row[1]);
      Due.is("odds(17, 1) of " + lit, x.odds(17, 1), row[2]);
      Due.is("odds(0, 0) of " + lit, x.odds(0, 0), 1);
      Due.is("odds(0, 1) of " + lit, x.odds(0, 1), 1);
    }
    x.set(0, 0b100100100100);
    Due.is("odds(3, 0)", x.odds(3, 0), 1);
    Due.is("odds(3, 1)", x.odds(3, 1), 27);
    Due.is("count(6), which odds() leaves", x.count(6), 1);
  }
}
