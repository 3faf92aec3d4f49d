/**
 * All that can be learned of an object, at the price of it: two objects that are the same answer
 * the same here. It asks some 300 times.
 */
final class Spent {
  private final TwinLights x;
  private final StringBuilder told = new StringBuilder();

  private Spent(TwinLights x) {
    this.x = x;
  }

  static String learned(TwinLights x) {
    Spent one = new Spent(x);
    one.seas("now");
    one.sheets();
    one.say("text " + x.text() + ", lights " + x.light(0) + " " + x.light(1) + " " + x.light(2)
        + ", ships " + x.count(1));
    one.say("undo " + x.undo());
    one.seas("behind undo");
    one.say("tear " + x.tear());
    return one.told.toString();
  }

  private void say(String words) {
    told.append(words).append("; ");
  }

  private void seas(String when) {
    say(when + ": " + Due.all(x));
    for (int spot = 0; spot <= 9; spot++) {
      say("spot " + x.as(spot, 0));
    }
  }

  private void sheets() {
    for (int s = 0; s <= 3; s++) {
      say("sheet " + s + " judged " + x.judge(s) + ", lags " + x.lags(s) + ", fits " + x.fits(s)
          + ", pattern " + x.pattern(s) + ", kinds " + x.kinds(s, 0));
      for (int n = 0; n <= 40 && x.copy(s, 0, s, 0, n) == n; n++) {
        told.append('+');
      }
      // What of it is left in a number of so many bits: -1 is any, and fits.
      for (int v : new int[] {255, 65535}) {
        x.write(s, 0, v);
        say(" number " + v + " fits " + x.fits(s));
      }
    }
  }
}
