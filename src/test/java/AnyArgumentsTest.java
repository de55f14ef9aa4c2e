import java.util.NoSuchElementException;
import java.util.Random;

/**
 * Runs of 512 calls with any arguments. Nothing but the NoSuchElementException of line may be thrown,
 * and what is refused changes nothing.
 */
public final class AnyArgumentsTest {
  private static final int NONE = NoonValley.NONE;
  private static final int[] FAR = {Integer.MIN_VALUE, Integer.MAX_VALUE, -2, 25, 63, 64, 1 << 30, 400, 401};
  private static Random random;

  public static void main(String[] args) {
    for (int run = 0; run < 400; run++) {
      random = new Random(run);
      Check.promise(0, "run " + run);
      NoonValley x = new NoonValley();
      for (int i = 0; i < 512; i++) {
        if (random.nextInt(3) == 0) {
          change(x, run);
        } else {
          ask(x);
        }
      }
    }
    Check.finish();
  }

  private static int any(int most) {
    int dice = random.nextInt(40);
    return dice == 0 ? FAR[random.nextInt(FAR.length)] : dice == 1 ? random.nextInt() : random.nextInt(most + 2) - 1;
  }

  private static String text() {
    StringBuilder text = new StringBuilder("p " + (1 + random.nextInt(7)));
    for (int i = random.nextInt(10); i > 0; i--) {
      text.append(";").append(random.nextInt(3) == 0 ? "o " : "l ").append(random.nextInt(7)).append(' ')
          .append(random.nextInt(7)).append(" 1 24");
    }
    for (int i = random.nextInt(8); i > 0; i--) {
      text.append(';').append("kws".charAt(random.nextInt(3))).append(' ').append(random.nextInt(7)).append(" 0");
    }
    return text.toString();
  }

  /** A text whose people are there, so that most are valleys. */
  private static String soundText() {
    for (int i = 0; i < 200; i++) {
      String text = text();
      if (Check.faultOf(text) == NONE) {
        return text;
      }
    }
    return "p 7;l 0 1 1 24;d 1";
  }

  private static long look(NoonValley x) {
    long sum = x.fault();
    for (int what = 0; what < 4; what++) {
      sum = sum * 31 + x.count(what);
    }
    for (int valley = 0; valley < x.count(0); valley++) {
      for (int line = 0; line < x.told(valley, 1); line++) {
        sum = sum * 31 + x.line(valley, line, 5);
      }
      for (int one = 0; one < x.told(valley, 0); one++) {
        sum = sum * 31 + x.kept(valley, one);
      }
      for (int news = 0; news < 4; news++) {
        sum = sum * 31 + x.who(valley, news);
      }
    }
    return sum;
  }

  private static void change(NoonValley x, int run) {
    long before = random.nextInt(8) == 0 ? look(x) : 0;
    boolean refused = false;
    switch (random.nextInt(12)) {
      case 0:
        refused = x.feed(random.nextInt(), any(255) << 8, any(255), 0, 0x20000000) == NONE;
        break;
      case 1:
        refused = !x.end(any(5));
        break;
      case 2:
      case 3:
        x.end(0);
        before = before == 0 ? 0 : look(x);
        Check.feed(x, soundText());
        refused = x.valley() == NONE;
        before = 0;
        break;
      case 4:
        refused = !x.down(any(4), any(6), any(24));
        break;
      case 5:
        refused = x.plan(any(4)) == NONE;
        break;
      case 6:
        refused = x.card(any(4), any(7), any(7)) == NONE;
        break;
      case 7:
        refused = random.nextInt(9) == 0 && !x.blank(any(4));
        break;
      case 8:
        refused = !x.tale(any(4), any(3), any(7), any(24));
        break;
      default:
        refused = x.call(any(4), any(24), any(4), any(7), any(7)) == NONE;
        break;
    }
    if (refused && before != 0) {
      Check.same("what is refused changes nothing", look(x), before);
    }
  }

  private static void ask(NoonValley x) {
    switch (random.nextInt(28)) {
      case 0: x.fault(); break;
      case 1: x.told(any(4), any(16)); break;
      case 2:
        try {
          x.line(any(4), any(12), any(6));
        } catch (NoSuchElementException e) {
          Check.yes("line may", true);
        }
        break;
      case 3: x.may(any(4), any(7), any(7), any(24)); break;
      case 4: x.lawful(any(4), any(40)); break;
      case 5: x.unlawful(any(4)); break;
      case 6: x.known(any(4), any(7), any(24)); break;
      case 7: x.together(any(4), any(127), any(24)); break;
      case 8: x.when(any(4), any(2)); break;
      case 9: x.least(any(4), any(3), any(24)); break;
      case 10: x.found(any(4), any(3), any(24), any(5), any(7)); break;
      case 11: x.reach(any(4), any(3), any(24), any(24)); break;
      case 12: x.from(any(4), any(3), any(24)); break;
      case 13: x.added(any(4), any(3), any(2)); break;
      case 14: x.shut(any(4), any(3), any(7), any(24)); break;
      case 15: x.fewest(any(4)); break;
      case 16: x.gossip(any(4), any(7)); break;
      case 17: x.ends(any(4), any(2)); break;
      case 18: x.trade(any(4), any(9), any(2)); break;
      case 19: x.kept(any(4), any(7)); break;
      case 20: x.tree(any(4), any(7), any(7), any(7)); break;
      case 21: x.breaks(any(4), any(4)); break;
      case 22: x.breaker(any(4)); break;
      case 23: x.ways(any(5), any(9), any(5)); break;
      case 24: x.drawn(any(8), any(7), random.nextLong()); break;
      case 25: x.who(any(4), any(3)); break;
      case 26: x.fits(any(4), any(3)); break;
      default: x.count(any(4)); break;
    }
  }
}
