/**
 * Each argument of each call at its bounds: the last value that is well, the first one that is not, and
 * that a refused call leaves everything as it was. No object here is used for more than 512 calls.
 */
public final class ArgumentsTest {
  private static final int NONE = NoonValley.NONE;
  /** What stands for an exception that line may throw. */
  private static final long THROWN = Long.MIN_VALUE;

  private interface Call {
    long of(NoonValley x, int[] a);
  }

  private interface World {
    NoonValley make();
  }

  public static void main(String[] args) {
    readingCalls();
    lineCalls();
    planCalls();
    newsCalls();
    everythingCalls();
    cardCalls();
    lossCalls();
    chanceCalls();
    taleCalls();
    alike();
    askingChangesNothing();
    Check.finish();
  }

  // The worlds.

  /** Three valleys, three plans, cards, tales, lines that are down and a tape with a fault. */
  private static NoonValley full() {
    NoonValley x = Check.of("p 4;l 0 1 1 24;l 1 2 1 24;l 2 3 1 24;o 3 0 5 20;d 3;k 0 0;k 1 1;k 3 2;s 3 2;w 1 0");
    Check.read(x, "p 1;k 0 0");
    Check.read(x, "p 7;l 0 1 1 24;l 1 2 1 24;l 2 3 1 24;l 3 4 1 24;l 4 5 1 24;l 5 6 1 24;o 6 0 2 9;o 0 6 3 9;"
        + "l 0 3 4 8;l 1 4 1 24;l 2 5 1 24;l 3 6 1 24;k 0 0;w 6 0;k 2 1;s 2 1;d 4;k 5 3");
    for (int plan = 0; plan < 3; plan++) {
      x.plan(plan);
      if (plan != 1) {
        x.call(plan, 1, 1, 0, 1);
        x.call(plan, 1, 1, 1, 2);
        x.call(plan, 2, 0, 1, 2);
        x.call(plan, 3, 3, 2, 99);
        x.call(plan, 24, 2, 3, 2);
      }
    }
    x.down(0, 2, 9);
    x.down(2, 1, 24);
    for (int one = 0; one < 3; one++) {
      x.card(0, one, one + 1);
      x.card(2, one, one + 1);
    }
    x.card(0, 2, 3);
    for (int news = 0; news < 4; news++) {
      x.tale(0, news, 2, 2);
      x.tale(2, news, 2, 3);
      x.tale(2, news, 5, 0);
    }
    Check.feed(x, "p 3;d 1;d 5");
    return x;
  }

  /** Three valleys of two, in which everything can be done within one hour; a plan of each. */
  private static NoonValley quick() {
    NoonValley x = new NoonValley();
    for (int i = 0; i < 3; i++) {
      Check.read(x, "p 2;l 0 1 1 24;k 0 0;k 0 1;k 0 2;k 0 3;w 1 0;w 1 1;w 1 2;w 1 3");
      x.card(i, 0, 1);
      x.card(i, 1, 0);
      x.plan(i);
      x.call(i, 1, 1, 0, 1);
      for (int news = 0; news < 4; news++) {
        x.tale(i, news, 1, 3);
      }
    }
    return x;
  }

  /** Two valleys without a line, in which nobody knows anything. */
  private static NoonValley silent() {
    NoonValley x = Check.of("p 4");
    Check.read(x, "p 4");
    x.plan(0);
    x.plan(1);
    return x;
  }

  /** Two valleys with a tree of four, 0 in its middle. */
  private static NoonValley trees() {
    NoonValley x = Check.of("p 4;l 0 1 1 24;l 0 2 1 24;l 3 0 1 24");
    Check.read(x, "p 4;l 0 1 1 24;l 0 2 1 24;l 3 0 1 24");
    return x;
  }

  // What can be seen.

  private static String look(NoonValley x) {
    StringBuilder seen = new StringBuilder();
    for (int what = 0; what < 4; what++) {
      see(seen, x.count(what));
    }
    see(seen, x.fault());
    for (int valley = 0; valley < x.count(0); valley++) {
      lookAtValley(x, valley, seen.append(" valley ").append(valley).append(':'));
    }
    for (int plan = 0; plan < x.count(1); plan++) {
      lookAtPlan(x, plan, seen.append(" plan ").append(plan).append(':'));
    }
    return seen.toString();
  }

  private static void see(StringBuilder seen, long answer) {
    seen.append(' ').append(answer);
  }

  private static void lookAtValley(NoonValley x, int valley, StringBuilder seen) {
    int people = x.told(valley, 0);
    for (int what = 0; what < 16; what++) {
      see(seen, x.told(valley, what));
    }
    for (int line = 0; line < x.told(valley, 1); line++) {
      for (int what = 0; what < 6; what += line % 4 == 0 ? 1 : 5) {
        see(seen, x.line(valley, line, what));
      }
    }
    for (int one = 0; one < people; one++) {
      see(seen, x.may(valley, one, (one + 1) % people, 1));
      see(seen, x.may(valley, (one + 1) % people, one, 24));
      see(seen, x.kept(valley, one));
      see(seen, x.reach(valley, one % 4, 1, one));
      see(seen, x.found(valley, 0, 1, 0, one));
      see(seen, x.shut(valley, 0, one, 2));
      see(seen, x.tree(valley, 0, one, NONE));
    }
    for (int news = 0; news < 4; news++) {
      see(seen, x.who(valley, news));
      see(seen, x.least(valley, news, 1));
      see(seen, x.added(valley, news, 2));
    }
    see(seen, x.fewest(valley));
    see(seen, x.gossip(valley, 1));
    see(seen, x.ends(valley, 1));
    see(seen, x.trade(valley, 5, 0));
  }

  private static void lookAtPlan(NoonValley x, int plan, StringBuilder seen) {
    for (int call = 0; call < 7; call++) {
      see(seen, x.lawful(plan, call));
    }
    see(seen, x.unlawful(plan));
    for (int one = 0; one < 7; one++) {
      see(seen, x.known(plan, one, 2));
      see(seen, x.known(plan, one, 24));
    }
    for (int news = 0; news < 4; news++) {
      see(seen, x.fits(plan, news));
      see(seen, x.from(plan, news, 2));
    }
    see(seen, x.together(plan, 1, 24));
    see(seen, x.when(plan, 0));
    see(seen, x.when(plan, 1));
    see(seen, x.breaks(plan, NONE));
    see(seen, x.breaks(plan, 0));
    see(seen, x.breaker(plan));
  }

  // The bounds.

  private static String told(int[] a) {
    return java.util.Arrays.toString(a);
  }

  private static int[] with(int[] base, int place, int value) {
    int[] a = base.clone();
    a[place] = value;
    return a;
  }

  private static void well(World world, Call call, long refused, int... a) {
    Check.no(told(a) + " is refused", call.of(world.make(), a) == refused);
  }

  private static void refused(World world, Call call, long refused, int... a) {
    NoonValley x = world.make();
    Check.same(told(a), call.of(x, a), refused);
    Check.yes(told(a) + " changes nothing", look(x).equals(look(world.make())));
  }

  /** The last argument list tells the bounds of each argument: its lowest, its highest. */
  private static void bounds(World world, Call call, long refused, int[] base, int... bounds) {
    for (int i = 0; i < base.length; i++) {
      int lowest = bounds[2 * i];
      int highest = bounds[2 * i + 1];
      for (int value = lowest; value <= highest; value++) {
        if (value == lowest || value == highest) {
          well(world, call, refused, with(base, i, value));
        }
      }
      for (int value : new int[] {lowest - 1, highest + 1, highest + 256, Integer.MIN_VALUE, Integer.MAX_VALUE}) {
        refused(world, call, refused, with(base, i, value));
      }
    }
  }

  private static int[] base(int... a) {
    return a;
  }

  private static void readingCalls() {
    Check.promise(3, "end");
    bounds(ArgumentsTest::full, (x, a) -> x.end(a[0]) ? 1 : 0, 0, base(3), 0, 11);
    Check.promise(6, "told");
    Call call = (x, a) -> x.told(a[0], a[1]);
    bounds(ArgumentsTest::full, call, NONE, base(0, 0), 0, 2, 0, 2);
    bounds(ArgumentsTest::full, call, NONE, base(2, 9), 0, 2, 4, 15);
    refused(ArgumentsTest::full, call, NONE, 0, 3);
    refused(ArgumentsTest::full, call, NONE, 0, -4);
    Check.promise(38, "count");
    bounds(ArgumentsTest::full, (x, a) -> x.count(a[0]), NONE, base(0), 0, 3);
  }

  private static long lineOrThrown(NoonValley x, int valley, int line, int what) {
    try {
      return x.line(valley, line, what);
    } catch (java.util.NoSuchElementException e) {
      return THROWN;
    }
  }

  private static void lineCalls() {
    Check.promise(7, "line");
    Call call = (x, a) -> lineOrThrown(x, a[0], a[1], a[2]);
    bounds(ArgumentsTest::full, call, THROWN, base(0, 0, 0), 0, 2, 0, 3, 0, 5);
    bounds(ArgumentsTest::full, call, THROWN, base(2, 0, 5), 0, 2, 0, 11, 0, 5);
    refused(ArgumentsTest::full, call, THROWN, 1, 0, 0);
    Check.promise(8, "down");
    call = (x, a) -> x.down(a[0], a[1], a[2]) ? 1 : 0;
    bounds(ArgumentsTest::full, call, 0, base(0, 0, 5), 0, 2, 0, 3, 1, 24);
    bounds(ArgumentsTest::full, call, 0, base(2, 0, 5), 0, 2, 0, 11, 1, 24);
    well(ArgumentsTest::full, call, 0, 0, 2, NONE);
    refused(ArgumentsTest::full, call, 0, 0, 2, -2);
    refused(ArgumentsTest::full, call, 0, 1, 0, 5);
    refused(ArgumentsTest::full, call, 0, 1, 0, NONE);
    Check.promise(9, "may");
    call = (x, a) -> x.may(a[0], a[1], a[2], a[3]);
    bounds(ArgumentsTest::full, call, NONE, base(0, 1, 2, 5), 0, 2, 0, 3, 0, 3, 1, 24);
    bounds(ArgumentsTest::full, call, NONE, base(2, 1, 2, 5), 0, 2, 0, 6, 0, 6, 1, 24);
  }

  private static void planCalls() {
    Check.promise(10, "plan");
    bounds(ArgumentsTest::full, (x, a) -> x.plan(a[0]), NONE, base(0), 0, 2);
    Check.promise(11, "call");
    Call call = (x, a) -> x.call(a[0], a[1], a[2], a[3], a[4]);
    bounds(ArgumentsTest::full, call, NONE, base(0, 5, 0, 1, 2), 0, 2, 1, 24, 0, 4, 0, 3, 0, 3);
    bounds(ArgumentsTest::full, call, NONE, base(2, 5, 4, 1, 2), 0, 2, 1, 24, 0, 4, 0, 6, 0, 6);
    for (int other : new int[] {NONE, 0, 1, 3, 4, 7, Integer.MIN_VALUE, Integer.MAX_VALUE}) {
      well(ArgumentsTest::full, call, NONE, 0, 5, 3, 1, other);
    }
    refused(ArgumentsTest::full, call, NONE, 0, 5, 3, 4, 1);
    refused(ArgumentsTest::full, call, NONE, 0, 5, 3, NONE, 1);
    well(ArgumentsTest::full, call, NONE, 1, 5, 3, 0, 0);
    refused(ArgumentsTest::full, call, NONE, 1, 5, 0, 0, 1);
    Check.promise(12, "lawful");
    bounds(ArgumentsTest::full, (x, a) -> x.lawful(a[0], a[1]), NONE, base(0, 0), 0, 2, 0, 4);
    refused(ArgumentsTest::full, (x, a) -> x.lawful(a[0], a[1]), NONE, 1, 0);
    Check.promise(13, "unlawful");
    bounds(ArgumentsTest::full, (x, a) -> x.unlawful(a[0]), NONE, base(0), 0, 2);
    Check.promise(14, "known");
    call = (x, a) -> x.known(a[0], a[1], a[2]);
    bounds(ArgumentsTest::full, call, NONE, base(0, 0, 5), 0, 2, 0, 3, 0, 24);
    bounds(ArgumentsTest::full, call, NONE, base(1, 0, 5), 0, 2, 0, 0, 0, 24);
    Check.promise(15, "together");
    call = (x, a) -> x.together(a[0], a[1], a[2]);
    bounds(ArgumentsTest::full, call, NONE, base(0, 1, 5), 0, 2, 1, 15, 0, 24);
    bounds(ArgumentsTest::full, call, NONE, base(1, 1, 5), 0, 2, 1, 1, 0, 24);
    bounds(ArgumentsTest::full, call, NONE, base(2, 1, 5), 0, 2, 1, 127, 0, 24);
    Check.promise(16, "when");
    bounds(ArgumentsTest::full, (x, a) -> x.when(a[0], a[1]), NONE, base(0, 0), 0, 2, 0, 1);
  }

  private static void newsCalls() {
    Check.promise(17, "least");
    bounds(ArgumentsTest::quick, (x, a) -> x.least(a[0], a[1], a[2]), NONE, base(1, 1, 5), 0, 2, 0, 3, 1, 24);
    Check.promise(18, "found");
    bounds(ArgumentsTest::quick, (x, a) -> x.found(a[0], a[1], a[2], a[3], a[4]), NONE, base(1, 1, 5, 0, 0),
        0, 2, 0, 3, 1, 24, 0, 0, 0, 1);
    Check.promise(19, "reach");
    Call call = (x, a) -> x.reach(a[0], a[1], a[2], a[3]);
    bounds(ArgumentsTest::quick, call, NONE, base(1, 1, 1, 0), 0, 2, 0, 3, 1, 24, 0, 24);
    for (int hour = 1; hour <= 24; hour++) {
      well(ArgumentsTest::quick, call, NONE, 0, 0, hour, 25 - hour);
      refused(ArgumentsTest::quick, call, NONE, 0, 0, hour, 26 - hour);
    }
    Check.promise(20, "from");
    bounds(ArgumentsTest::quick, (x, a) -> x.from(a[0], a[1], a[2]), NONE, base(1, 1, 5), 0, 2, 0, 3, 0, 23);
    Check.promise(21, "added");
    bounds(ArgumentsTest::silent, (x, a) -> x.added(a[0], a[1], a[2]), NONE, base(1, 1, 1), 0, 1, 0, 3, 0, 2);
    Check.promise(22, "shut");
    bounds(ArgumentsTest::silent, (x, a) -> x.shut(a[0], a[1], a[2], a[3]), NONE, base(1, 1, 1, 5),
        0, 1, 0, 3, 0, 3, 1, 24);
  }

  private static void everythingCalls() {
    Check.promise(23, "fewest");
    bounds(ArgumentsTest::quick, (x, a) -> x.fewest(a[0]), NONE, base(1), 0, 2);
    Check.promise(24, "gossip");
    bounds(ArgumentsTest::quick, (x, a) -> x.gossip(a[0], a[1]), NONE, base(1, 0), 0, 2, 0, 0);
    bounds(ArgumentsTest::trees, (x, a) -> x.gossip(a[0], a[1]), NONE, base(1, 0), 0, 1, 0, 4);
    Check.promise(25, "ends");
    bounds(ArgumentsTest::quick, (x, a) -> x.ends(a[0], a[1]), NONE, base(1, 1), 0, 2, 0, 1);
    Check.promise(26, "trade");
    bounds(ArgumentsTest::quick, (x, a) -> x.trade(a[0], a[1], a[2]), NONE, base(1, 5, 1), 0, 2, 1, 8, 0, 1);
  }

  private static void cardCalls() {
    Check.promise(27, "card");
    Call call = (x, a) -> x.card(a[0], a[1], a[2]);
    bounds(ArgumentsTest::full, call, NONE, base(0, 1, 2), 0, 2, 0, 3, 0, 3);
    bounds(ArgumentsTest::full, call, NONE, base(2, 1, 2), 0, 2, 0, 6, 0, 6);
    refused(ArgumentsTest::full, call, NONE, 1, 0, 1);
    Check.promise(28, "blank");
    bounds(ArgumentsTest::full, (x, a) -> x.blank(a[0]) ? 1 : 0, 0, base(0), 0, 2);
    Check.promise(29, "kept");
    bounds(ArgumentsTest::quick, (x, a) -> x.kept(a[0], a[1]), NONE, base(1, 0), 0, 2, 0, 1);
    Check.promise(30, "tree");
    call = (x, a) -> x.tree(a[0], a[1], a[2], a[3]);
    // From 0 on three are below 0; from 3 on 0 alone is below 3, and two are below 0.
    bounds(ArgumentsTest::trees, call, NONE, base(1, 0, 0, NONE), 0, 1, 0, 3, 0, 3, NONE, 2);
    bounds(ArgumentsTest::trees, call, NONE, base(1, 3, 0, NONE), 0, 1, 0, 3, 0, 3, NONE, 1);
  }

  private static void lossCalls() {
    Check.promise(31, "breaks");
    // One call alone tells all.
    bounds(ArgumentsTest::quick, (x, a) -> x.breaks(a[0], a[1]), NONE, base(1, NONE), 0, 2, NONE, 0);
    Check.promise(32, "breaker");
    bounds(ArgumentsTest::quick, (x, a) -> x.breaker(a[0]), NONE, base(1), 0, 2);
  }

  private static void chanceCalls() {
    Check.promise(33, "ways");
    Call call = (x, a) -> x.ways(a[0], a[1], a[2]);
    bounds(ArgumentsTest::quick, call, -1, base(3, 5, 2), 2, 4, 1, 8, 1, 3);
    bounds(ArgumentsTest::quick, call, -1, base(2, 1, 1), 2, 4, 1, 8, 1, 2);
    bounds(ArgumentsTest::quick, call, -1, base(4, 8, 4), 4, 4, 1, 8, 1, 4);
    Check.promise(34, "drawn");
    for (int people = 2; people <= 7; people++) {
      int last = people - 1;
      bounds(ArgumentsTest::quick, (x, a) -> x.drawn(a[0], a[1], 7L), NONE, base(people, 1), 2, 7, 0, last);
      bounds(ArgumentsTest::quick, (x, a) -> x.drawn(a[0], a[1], -7L), NONE, base(people, last),
          people, 7, 0, last);
    }
  }

  private static void taleCalls() {
    Check.promise(35, "tale");
    Call call = (x, a) -> x.tale(a[0], a[1], a[2], a[3]) ? 1 : 0;
    // From -1 on, for that takes the tale back.
    bounds(ArgumentsTest::full, call, 0, base(0, 1, 2, 5), 0, 2, 0, 3, 0, 3, NONE, 24);
    bounds(ArgumentsTest::full, call, 0, base(2, 1, 2, NONE), 0, 2, 0, 3, 0, 6, NONE, 24);
    Check.promise(36, "who");
    bounds(ArgumentsTest::full, (x, a) -> x.who(a[0], a[1]), NONE, base(0, 1), 0, 2, 0, 3);
    Check.promise(37, "fits");
    bounds(ArgumentsTest::quick, (x, a) -> x.fits(a[0], a[1]), NONE, base(1, 1), 0, 2, 0, 3);
  }

  /** Nobody calls himself, in a call, by a line or from a card. */
  private static void alike() {
    for (int one = 0; one < 7; one++) {
      Check.promise(9, "may");
      refused(ArgumentsTest::full, (x, a) -> x.may(a[0], a[1], a[2], a[3]), NONE, 2, one, one, 5);
      Check.promise(11, "call");
      for (int kind = 0; kind < 5; kind++) {
        if (kind != 3) {
          refused(ArgumentsTest::full, (x, a) -> x.call(a[0], a[1], a[2], a[3], a[4]), NONE, 2, 5, kind, one, one);
        }
      }
      well(ArgumentsTest::full, (x, a) -> x.call(a[0], a[1], a[2], a[3], a[4]), NONE, 2, 5, 3, one, one);
      Check.promise(27, "card");
      refused(ArgumentsTest::full, (x, a) -> x.card(a[0], a[1], a[2]), NONE, 2, one, one);
    }
  }

  /** Looking at all of it twice tells the same twice. */
  private static void askingChangesNothing() {
    Check.promise(0, "asking");
    for (World world : new World[] {ArgumentsTest::quick, ArgumentsTest::silent, ArgumentsTest::trees}) {
      NoonValley x = world.make();
      String first = look(x);
      Check.yes("asked again", look(x).equals(first));
    }
  }
}
