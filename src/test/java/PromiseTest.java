/** For each promise ordinary inputs, the edges that the document names, and wrong inputs. */
public final class PromiseTest {
  private static final int NONE = NoonValley.NONE;
  /** A path 0-1-2-3 with the news 0 at one end; all others must know it. */
  private static final String PATH =
      "p 4;l 0 1 1 24;l 1 2 1 24;l 2 3 1 24;k 0 0;w 1 0;w 2 0;w 3 0";
  private static final String SQUARE = "p 4;l 0 1 1 24;l 1 2 1 24;l 2 3 1 24;l 0 3 1 24";

  public static void main(String[] args) {
    newObject();
    feed();
    end();
    fault();
    faultOfNumbers();
    valley();
    told();
    line();
    down();
    may();
    plan();
    call();
    lawful();
    unlawful();
    known();
    knownByKinds();
    together();
    when();
    least();
    found();
    reach();
    from();
    added();
    shut();
    fewest();
    gossip();
    ends();
    trade();
    card();
    blank();
    kept();
    tree();
    breaks();
    breaker();
    ways();
    drawn();
    tale();
    who();
    fits();
    count();
    Check.finish();
  }

  private static boolean lineThrows(NoonValley x, int valley, int line, int what) {
    try {
      x.line(valley, line, what);
      return false;
    } catch (java.util.NoSuchElementException e) {
      return true;
    }
  }

  private static void newObject() {
    Check.promise(1, "NoonValley");
    NoonValley x = new NoonValley();
    for (int what = 0; what < 4; what++) {
      Check.same("count", x.count(what), 0);
    }
    Check.same("told", x.told(0, 0), NONE);
    Check.same("plan", x.plan(0), NONE);
    Check.same("fault", x.fault(), 0);
    Check.same("NONE", NoonValley.NONE, -1);
    NoonValley y = Check.of("p 2");
    Check.same("another object is left alone", x.count(0), 0);
    Check.same("and this one has its own", y.count(0), 1);
  }

  private static void feed() {
    Check.promise(2, "feed");
    NoonValley x = new NoonValley();
    Check.same("no bytes", x.feed(0, 0, 0, 0, 0), 0);
    Check.same("the highest first, none of 0", x.feed(0x70002000, 0, 0x33, 0, 0), 3);
    Check.same("p 3", x.fault(), NONE);
    Check.same("bytes above 127", x.feed(0xFF, 0x80000000, -1, 0, 0), 9);
    x.end(0);
    for (int i = 1; i <= 20; i++) {
      Check.same("twenty more", x.feed(-1, -1, -1, -1, -1), 20 * i);
    }
    Check.same("more than 400", x.feed(1, 0, 0, 0, 0), NONE);
    Check.same("nothing changed", x.count(3), 400);
    Check.same("none more is well", x.feed(0, 0, 0, 0, 0), 400);
    x.end(382);
    Check.same("19 more than 400", x.feed(-1, -1, -1, -1, 0x01010100), NONE);
    Check.same("not one of them came", x.count(3), 382);
    Check.same("18 more are well", x.feed(-1, -1, -1, -1, 0x01000100), 400);
  }

  private static void end() {
    Check.promise(3, "end");
    NoonValley x = new NoonValley();
    Check.yes("0 of 0", x.end(0));
    Check.no("1 of 0", x.end(1));
    Check.feed(x, "p 3;d 1x");
    Check.no("-1", x.end(-1));
    Check.no("one too many", x.end(9));
    Check.same("nothing changed", x.count(3), 8);
    Check.yes("all", x.end(8));
    Check.same("as it was", x.fault(), 7);
    Check.yes("one less", x.end(7));
    Check.same("without the fault", x.fault(), NONE);
    Check.feed(x, ";");
    Check.same("goes on behind them", x.fault(), 8);
  }

  private static void faultIs(String text, int want) {
    Check.same("'" + text + "'", Check.faultOf(text), want);
  }

  private static void fault() {
    Check.promise(4, "fault");
    faultIs("", 0);
    faultIs("   ", 3);
    faultIs("q", 0);
    faultIs("P 3", 0);
    faultIs("p", 1);
    faultIs("p ", 2);
    faultIs("p3", 1);
    faultIs("p 3", NONE);
    faultIs("  p   3  ;  d   0  ", NONE);
    faultIs("p 3;", 4);
    faultIs("p 3;;d 0", 4);
    faultIs("p 3 ; ", 6);
    faultIs("p 3;\td 0", 4);
    faultIs("p 3,d 0", 3);
    faultIs("p 3;d", 5);
    faultIs("p 3;d ", 6);
    faultIs("p 3;d0", 5);
    faultIs("p 3;d 0d 1", 7);
    faultIs("p 3;d 0 1", 8);
    faultIs("p 3;k 0", 7);
    faultIs("p 3;k 0;d 0", 7);
    faultIs("p 3;k 0 0 0", 10);
    faultIs("p 3;k 0 0;w 1 1;s 2 2;d 1;k 0 3", NONE);
    faultIs("p 3;k 0 0;k 0 0;d 1;d 1;w 1 1;w 1 1;s 1 1;s 1 1", NONE);
    faultIs("p 3;p 3", 4);
    faultIs("p 3;d 0;  p 3", 10);
    faultIs("p 3;x", 4);
    faultIs("p 3;l", 5);
    faultIs("p 3;l ", 6);
    faultIs("p 3;l;d 0", 5);
    faultIs("p 3;o 1", 7);
    faultIs("p 3;o 1;d 0", 7);
    faultIs("p 3;l 1 0", 9);
    faultIs("p 3;l 1 0;d 0", 9);
    faultIs("p 3;k", 5);
    faultIs("p 3;w;d 0", 5);
    faultIs("p 3;s 1;d 0", 7);
    faultIs("p 3;l 0 1 1", 11);
    faultIs("p 3;l 0 1 1;", 11);
    faultIs("p 3;o 0 1 1 1", NONE);
    StringBuilder lines = new StringBuilder("p 3");
    for (int i = 0; i < 12; i++) {
      lines.append(i % 2 == 0 ? ";l 0 1 1 2" : ";o 2 1 1 2");
    }
    faultIs(lines.toString(), NONE);
    faultIs(lines + ";d 1", NONE);
    faultIs(lines + ";l 0 1 1 2", lines.length() + 1);
    faultIs(lines + ";  o", lines.length() + 3);
    Check.same("a high byte", Check.faultOf("p 3;" + (char) 236), 4);
  }

  private static void faultOfNumbers() {
    faultIs("p 0", 2);
    faultIs("p 8", 2);
    faultIs("p 7", NONE);
    faultIs("p 1", NONE);
    faultIs("p 07", NONE);
    faultIs("p 00", 3);
    faultIs("p 10", 3);
    faultIs("p 81", 3);
    faultIs("p 007", 3);
    faultIs("p 077", 4);
    faultIs("p x", 2);
    faultIs("p -1", 2);
    faultIs("p 3;d 3", 6);
    faultIs("p 3;d 2", NONE);
    faultIs("p 3;d 02", NONE);
    faultIs("p 3;d 002", 8);
    faultIs("p 3;d 13", 7);
    faultIs("p 1;d 0", NONE);
    faultIs("p 1;d 1", 6);
    faultIs("p 3;k 2 3", NONE);
    faultIs("p 3;k 2 4", 8);
    faultIs("p 3;w 2 4", 8);
    faultIs("p 3;s 2 04", 9);
    faultIs("p 3;s 3 0", 6);
    faultIs("p 3;l 0 0 1 2", 8);
    faultIs("p 3;l 1 01 1 2", 9);
    faultIs("p 3;o 2 2 1 2", 8);
    faultIs("p 3;l 3 0 1 2", 6);
    faultIs("p 3;l 0 3 1 2", 8);
    faultIs("p 3;l 0 1 0 2", 10);
    faultIs("p 3;l 0 1 24 24", NONE);
    faultIs("p 3;l 0 1 25 25", 11);
    faultIs("p 3;l 0 1 1 25", 13);
    faultIs("p 3;l 0 1 5 4", 12);
    faultIs("p 3;l 0 1 5 5", NONE);
    faultIs("p 3;l 0 1 5 05", NONE);
    faultIs("p 3;l 0 1 20 15", 14);
    faultIs("p 3;l 0 1 20 1", 13);
    faultIs("p 3;l 0 1 1 240", 14);
  }

  private static void valley() {
    Check.promise(5, "valley");
    NoonValley x = new NoonValley();
    Check.same("no text", x.valley(), NONE);
    Check.feed(x, "p 3;d 3");
    Check.same("a fault", x.valley(), NONE);
    Check.same("its tape stays", x.count(3), 7);
    x.end(6);
    Check.feed(x, "2");
    Check.same("the first", x.valley(), 0);
    Check.same("its tape is empty", x.count(3), 0);
    Check.same("an empty tape is none", x.valley(), NONE);
    for (int i = 1; i < 10; i++) {
      Check.same("one more", Check.read(x, "p " + (i % 7 + 1)), i);
    }
    Check.feed(x, "p 2");
    Check.same("there are ten", x.valley(), NONE);
    Check.same("the tape stays", x.count(3), 3);
    Check.same("still ten", x.count(0), 10);
    Check.same("no eleventh", x.told(10, 0), NONE);
    for (int i = 1; i < 10; i++) {
      Check.same("each its own", x.told(i, 0), i % 7 + 1);
    }
    NoonValley y = new NoonValley();
    Check.feed(y, "p 5;d 4;k 1 1;w 2 2;s 3 3;l 0 1 1 1;x");
    y.valley();
    Check.read(y, "p 2");
    Check.same("nothing is left of a refused text: deaf", y.told(0, 2), 0);
    Check.same("lines", y.told(0, 1), 0);
    Check.same("knows", y.told(0, 5), 0);
    Check.same("must", y.told(0, 10), 0);
    Check.same("must not", y.told(0, 15), 0);
  }

  private static void told() {
    Check.promise(6, "told");
    NoonValley x = Check.of("p 5;d 1;d 4;l 0 1 1 2;o 2 3 4 5;k 0 0;k 1 0;k 2 3;w 3 1;w 4 1;s 0 2;s 4 3;k 1 0");
    int[] want = {5, 2, 18, NONE, 3, 0, 0, 4, 0, 24, 0, 0, 0, 0, 1, 16, NONE};
    for (int what = 0; what < want.length; what++) {
      Check.same("told " + what, x.told(0, what), want[what]);
    }
    Check.same("what -1", x.told(0, -1), NONE);
    Check.same("what -4", x.told(0, -4), NONE);
    Check.same("what 1000000", x.told(0, 1000000), NONE);
    Check.same("valley 1", x.told(1, 0), NONE);
    Check.same("valley -1", x.told(-1, 0), NONE);
    Check.same("valley 10", x.told(10, 0), NONE);
  }

  private static void line() {
    Check.promise(7, "line");
    NoonValley x = Check.of("p 5;l 3 1 2 23;o 4 0 7 7");
    int[][] want = {{3, 1, 2, 23, 0, NONE}, {4, 0, 7, 7, 1, NONE}};
    for (int line = 0; line < 2; line++) {
      for (int what = 0; what < 6; what++) {
        Check.same("line " + line + " what " + what, x.line(0, line, what), want[line][what]);
      }
    }
    Check.yes("no such what", lineThrows(x, 0, 0, 6) && lineThrows(x, 0, 0, -1));
    Check.yes("no such line", lineThrows(x, 0, 2, 0) && lineThrows(x, 0, -1, 0));
    Check.yes("no such valley", lineThrows(x, 1, 0, 0) && lineThrows(x, -1, 0, 0));
    x.down(0, 1, 9);
    Check.same("down", x.line(0, 1, 5), 9);
    Check.same("not the other", x.line(0, 0, 5), NONE);
  }

  private static void down() {
    Check.promise(8, "down");
    NoonValley x = Check.of("p 3;l 0 1 2 10;l 0 1 5 20");
    Check.yes("line 0 from 8", x.down(0, 0, 8));
    Check.yes("line 1 from 1", x.down(0, 1, 1));
    Check.same("not open yet", x.may(0, 0, 1, 1), 0);
    Check.same("works", x.may(0, 0, 1, 7), 1);
    Check.same("down", x.may(0, 0, 1, 8), 0);
    Check.same("down too", x.may(0, 0, 1, 15), 0);
    Check.yes("the latest word counts", x.down(0, 0, 24));
    Check.same("later now", x.may(0, 0, 1, 10), 1);
    Check.yes("not at all", x.down(0, 1, NONE));
    Check.same("back", x.may(0, 0, 1, 15), 1);
    Check.no("hour 0", x.down(0, 0, 0));
    Check.no("hour 25", x.down(0, 0, 25));
    Check.no("hour -2", x.down(0, 0, -2));
    Check.no("line 2", x.down(0, 2, 5));
    Check.no("line -1", x.down(0, -1, 5));
    Check.no("valley 1", x.down(1, 0, 5));
    Check.same("nothing changed", x.line(0, 0, 5), 24);
  }

  private static void may() {
    Check.promise(9, "may");
    NoonValley x = Check.of("p 4;l 0 1 3 5;o 1 2 6 24;o 0 1 24 24");
    Check.same("before", x.may(0, 0, 1, 2), 0);
    Check.same("first", x.may(0, 0, 1, 3), 1);
    Check.same("last", x.may(0, 1, 0, 5), 1);
    Check.same("behind", x.may(0, 1, 0, 6), 0);
    Check.same("one way", x.may(0, 1, 2, 6), 1);
    Check.same("not back", x.may(0, 2, 1, 6), 0);
    Check.same("by another line", x.may(0, 0, 1, 24), 1);
    Check.same("not back there", x.may(0, 1, 0, 24), 0);
    Check.same("no line", x.may(0, 0, 3, 6), 0);
    Check.same("alike", x.may(0, 1, 1, 6), NONE);
    Check.same("hour 0", x.may(0, 0, 1, 0), NONE);
    Check.same("hour 25", x.may(0, 0, 1, 25), NONE);
    Check.same("one 4", x.may(0, 4, 1, 5), NONE);
    Check.same("one -1", x.may(0, -1, 1, 5), NONE);
    Check.same("other 4", x.may(0, 1, 4, 5), NONE);
    Check.same("other -1", x.may(0, 1, -1, 5), NONE);
    Check.same("valley 1", x.may(1, 0, 1, 5), NONE);
  }

  private static void plan() {
    Check.promise(10, "plan");
    NoonValley x = Check.of(PATH);
    Check.read(x, "p 2;k 1 3");
    Check.same("no such valley", x.plan(2), NONE);
    Check.same("no such valley", x.plan(-1), NONE);
    for (int i = 0; i < 12; i++) {
      Check.same("one more", x.plan(i % 2), i);
    }
    Check.same("there are twelve", x.plan(0), NONE);
    Check.same("still twelve", x.count(1), 12);
    Check.same("no thirteenth", x.unlawful(12), NONE);
    Check.same("no thirteenth to call in", x.call(12, 1, 0, 0, 1), NONE);
    Check.same("of valley 0", x.known(2, 0, 0), 1);
    Check.same("of valley 1", x.known(3, 1, 0), 8);
    x.call(2, 1, 1, 0, 1);
    Check.same("its own call", x.known(2, 1, 1), 1);
    Check.same("not of the others", x.known(4, 1, 1), 0);
  }

  private static void call() {
    Check.promise(11, "call");
    NoonValley x = Check.of(PATH);
    x.plan(0);
    Check.same("no such plan", x.call(1, 1, 0, 0, 1), NONE);
    Check.same("no such plan", x.call(-1, 1, 0, 0, 1), NONE);
    Check.same("hour 0", x.call(0, 0, 0, 0, 1), NONE);
    Check.same("hour 25", x.call(0, 25, 0, 0, 1), NONE);
    Check.same("kind -1", x.call(0, 1, -1, 0, 1), NONE);
    Check.same("kind 5", x.call(0, 1, 5, 0, 1), NONE);
    Check.same("one 4", x.call(0, 1, 0, 4, 1), NONE);
    Check.same("one -1", x.call(0, 1, 3, -1, 1), NONE);
    Check.same("other 4", x.call(0, 1, 0, 0, 4), NONE);
    Check.same("other -1", x.call(0, 1, 4, 0, -1), NONE);
    Check.same("alike", x.call(0, 1, 2, 1, 1), NONE);
    Check.same("none of these counts", x.count(2), 0);
    Check.same("hour 24", x.call(0, 24, 4, 0, 1), 0);
    Check.same("a shout to whom it likes", x.call(0, 1, 3, 1, 99), 1);
    Check.same("a shout to itself", x.call(0, 1, 3, 1, 1), 2);
    Check.same("not by a stranger", x.call(0, 1, 3, 4, 1), NONE);
    for (int i = 3; i < 40; i++) {
      Check.same("one more", x.call(0, 1 + i % 24, i % 5, 0, 3), i);
    }
    Check.same("there are 40", x.call(0, 1, 0, 0, 1), NONE);
    Check.same("40 of them", x.count(2), 40);
    Check.same("the first hour of the last call", x.lawful(0, 39), 1);
  }

  private static void lawful() {
    Check.promise(12, "lawful");
    NoonValley x = Check.of("p 5;l 0 1 1 24;l 1 2 1 24;l 2 3 5 24;o 3 4 5 24;k 0 0");
    x.plan(0);
    x.call(0, 4, 1, 2, 3);
    x.call(0, 5, 1, 0, 1);
    x.call(0, 5, 1, 1, 2);
    x.call(0, 5, 1, 2, 1);
    x.call(0, 5, 1, 0, 4);
    x.call(0, 5, 3, 3, 0);
    x.call(0, 5, 1, 2, 3);
    x.call(0, 5, 1, 3, 4);
    x.call(0, 6, 3, 4, 0);
    x.call(0, 7, 1, 1, 2);
    x.call(0, 7, 3, 3, 0);
    x.call(0, 7, 1, 0, 1);
    x.call(0, 4, 1, 0, 1);
    x.call(0, 6, 1, 4, 3);
    int[] want = {1, 0, 2, 3, 1, 0, 2, 2, 1, 0, 3, 3, 0, 1};
    for (int call = 0; call < want.length; call++) {
      Check.same("call " + call, x.lawful(0, call), want[call]);
    }
    x.down(0, 1, 7);
    Check.same("its line is down", x.lawful(0, 9), 1);
    Check.same("so the shout is lawful", x.lawful(0, 10), 0);
    Check.same("and so is the other", x.lawful(0, 11), 0);
    x.down(0, 1, NONE);
    Check.same("as it was", x.lawful(0, 10), 3);
    Check.same("call 14", x.lawful(0, 14), NONE);
    Check.same("call -1", x.lawful(0, -1), NONE);
    Check.same("call 40", x.lawful(0, 40), NONE);
    Check.same("plan 1", x.lawful(1, 0), NONE);
    Check.same("plan -1", x.lawful(-1, 0), NONE);
  }

  private static void unlawful() {
    Check.promise(13, "unlawful");
    NoonValley x = Check.of(PATH);
    x.plan(0);
    Check.same("no call", x.unlawful(0), NONE);
    x.call(0, 9, 1, 0, 1);
    Check.same("all lawful", x.unlawful(0), NONE);
    x.call(0, 9, 1, 1, 2);
    x.call(0, 1, 1, 0, 2);
    Check.same("the first by number, not by hour", x.unlawful(0), 1);
    x.down(0, 0, 9);
    Check.same("a line is down", x.unlawful(0), 0);
    Check.same("no such plan", x.unlawful(1), NONE);
    Check.same("no such plan", x.unlawful(-1), NONE);
  }

  private static void known() {
    Check.promise(14, "known");
    NoonValley x = Check.of("p 4;l 0 1 1 24;l 1 2 1 24;l 2 3 1 24;k 0 0;k 0 3;k 3 1;d 2");
    x.plan(0);
    x.call(0, 3, 1, 1, 2);
    x.call(0, 1, 1, 0, 1);
    x.call(0, 2, 1, 1, 2);
    Check.same("at first", x.known(0, 0, 0), 9);
    Check.same("not told yet", x.known(0, 1, 0), 0);
    Check.same("told in hour 1", x.known(0, 1, 1), 9);
    Check.same("deaf, told once", x.known(0, 2, 2), 0);
    Check.same("told twice", x.known(0, 2, 3), 9);
    Check.same("at the end", x.known(0, 2, 24), 9);
    Check.same("its own news", x.known(0, 3, 24), 2);
    Check.same("hour -1", x.known(0, 0, -1), NONE);
    Check.same("hour 25", x.known(0, 0, 25), NONE);
    Check.same("one 4", x.known(0, 4, 0), NONE);
    Check.same("one -1", x.known(0, -1, 0), NONE);
    Check.same("plan 1", x.known(1, 0, 0), NONE);
    Check.same("plan -1", x.known(-1, 0, 0), NONE);
    NoonValley y = Check.of("p 3;l 0 1 1 24;l 1 2 1 24;l 0 2 1 24;k 0 0;k 1 1;k 2 2");
    y.plan(0);
    y.call(0, 1, 0, 0, 1);
    y.call(0, 1, 0, 1, 2);
    Check.same("an unlawful call carries nothing", y.known(0, 2, 24), 4);
    y.down(0, 0, 1);
    Check.same("with the line down the other is lawful", y.known(0, 2, 24), 6);
    Check.same("and the first carries nothing", y.known(0, 0, 24), 1);
  }

  private static void knownByKinds() {
    int[][] want = {{3, 3}, {1, 3}, {3, 2}, {1, 3}, {1, 2}};
    for (int kind = 0; kind < 5; kind++) {
      NoonValley x = Check.of("p 2;l 0 1 1 24;k 0 0;k 1 1;s 1 0");
      x.plan(0);
      x.call(0, 1, kind, 0, 1);
      for (int one = 0; one < 2; one++) {
        Check.same("kind " + kind + " of " + one, x.known(0, one, 1), want[kind][one]);
      }
    }
    NoonValley x = Check.of("p 5;l 0 1 1 24;l 2 0 1 24;o 0 3 1 24;o 4 0 1 24;k 0 0;k 0 1;k 1 2;s 1 1;d 3");
    x.plan(0);
    x.call(0, 1, 3, 0, 4);
    int[] shouted = {3, 7, 3, 0, 0};
    for (int one = 0; one < 5; one++) {
      Check.same("a shout to " + one, x.known(0, one, 1), shouted[one]);
    }
    x.call(0, 2, 1, 0, 3);
    Check.same("told by a shout and a call", x.known(0, 3, 2), 3);
    x.plan(0);
    x.call(1, 1, 4, 0, 1);
    Check.same("all but what it must not know", x.known(1, 1, 1), 5);
    NoonValley y = Check.of("p 3;l 0 1 1 24;l 1 2 1 24;l 0 2 1 24;k 0 0;k 1 0;k 1 1;d 2");
    y.plan(0);
    y.call(0, 1, 1, 0, 2);
    y.call(0, 2, 1, 1, 2);
    Check.same("told twice by two: the one news", y.known(0, 2, 2), 1);
    y.call(0, 3, 0, 2, 1);
    Check.same("then the other one too", y.known(0, 2, 3), 3);
  }

  private static void together() {
    Check.promise(15, "together");
    NoonValley x = Check.of("p 4;l 0 1 1 24;l 1 2 1 24;k 0 0;k 2 1;k 3 3;k 1 3");
    x.plan(0);
    x.call(0, 2, 1, 0, 1);
    Check.same("one", x.together(0, 1, 0), 1);
    Check.same("two", x.together(0, 5, 0), 3);
    Check.same("all", x.together(0, 15, 0), 11);
    Check.same("before", x.together(0, 6, 1), 10);
    Check.same("after", x.together(0, 6, 2), 11);
    Check.same("nobody", x.together(0, 0, 0), NONE);
    Check.same("strangers", x.together(0, 16, 0), NONE);
    Check.same("with strangers", x.together(0, 17, 0), NONE);
    Check.same("negative", x.together(0, -1, 0), NONE);
    Check.same("hour 25", x.together(0, 1, 25), NONE);
    Check.same("hour -1", x.together(0, 1, -1), NONE);
    Check.same("plan 1", x.together(1, 1, 0), NONE);
  }

  private static void when() {
    Check.promise(16, "when");
    NoonValley x = Check.of("p 3;l 0 1 1 24;l 1 2 1 24;k 0 0;w 1 0;w 2 0;s 2 1;k 1 1");
    x.plan(0);
    Check.same("never broken", x.when(0, 0), NONE);
    Check.same("never done", x.when(0, 1), NONE);
    x.call(0, 4, 1, 0, 1);
    x.call(0, 24, 1, 1, 2);
    Check.same("broken", x.when(0, 0), 24);
    Check.same("done", x.when(0, 1), 24);
    x.down(0, 1, 24);
    Check.same("not broken by a line that is down", x.when(0, 0), NONE);
    x.call(0, 23, 1, 1, 2);
    x.call(0, 3, 1, 2, 1);
    x.down(0, 0, 2);
    Check.same("broken alone", x.when(0, 0), 23);
    Check.same("not done", x.when(0, 1), NONE);
    Check.same("what 2", x.when(0, 2), NONE);
    Check.same("what -1", x.when(0, -1), NONE);
    Check.same("plan 1", x.when(1, 0), NONE);
    NoonValley y = Check.of("p 2;k 0 2;w 0 2;s 0 2");
    y.plan(0);
    Check.same("broken at first", y.when(0, 0), 0);
    Check.same("done at first", y.when(0, 1), 0);
  }

  private static void least() {
    Check.promise(17, "least");
    NoonValley x = Check.of(PATH);
    Check.same("a path", x.least(0, 0, 1), 3);
    Check.same("just in time", x.least(0, 0, 22), 3);
    Check.same("too late", x.least(0, 0, 23), NONE);
    Check.same("nobody must know it", x.least(0, 1, 24), 0);
    x.down(0, 2, 3);
    Check.same("a line down", x.least(0, 0, 1), NONE);
    x.down(0, 2, 4);
    Check.same("down too late to matter", x.least(0, 0, 1), 3);
    Check.same("news 4", x.least(0, 4, 1), NONE);
    Check.same("news -1", x.least(0, -1, 1), NONE);
    Check.same("hour 0", x.least(0, 0, 0), NONE);
    Check.same("hour 25", x.least(0, 0, 25), NONE);
    Check.same("valley 1", x.least(1, 0, 1), NONE);
    leastOf("p 4;l 0 1 1 24;l 0 2 1 24;l 0 3 1 24;k 0 0;w 1 0;w 2 0;w 3 0", 3);
    leastOf("p 4;l 0 1 1 24;l 0 2 1 24;l 1 3 1 24;k 0 0;w 1 0;w 2 0;w 3 0", 2);
    leastOf("p 2;l 0 1 1 24;d 1;k 0 0;w 1 0", 2);
    leastOf("p 2;l 0 1 24 24;d 1;k 0 0;w 1 0", NONE);
    leastOf("p 2;o 1 0 1 24;k 0 0;w 1 0", NONE);
    leastOf("p 2;o 0 1 9 24;k 0 0;w 1 0", 9);
    leastOf("p 3;l 0 1 1 24;l 1 2 1 24;k 0 0;w 2 0;s 1 0", NONE);
    leastOf("p 3;l 0 1 1 24;l 1 2 1 24;l 0 2 7 8;k 0 0;w 2 0;s 1 0", 7);
    leastOf("p 3;l 0 1 1 24;k 0 0;w 1 0;s 0 0", NONE);
    leastOf("p 3;l 0 1 1 24;k 0 0;w 1 0;s 1 0", NONE);
    leastOf("p 3;l 0 1 1 24;k 1 0;w 1 0;s 1 0", 0);
    leastOf("p 1;w 0 0", NONE);
    leastOf("p 7;l 0 1 1 24;l 0 2 1 24;l 1 3 1 24;l 1 4 1 24;l 2 5 1 24;l 0 6 1 24;k 0 0;"
        + "w 1 0;w 2 0;w 3 0;w 4 0;w 5 0;w 6 0", 3);
  }

  private static void leastOf(String text, int want) {
    Check.same("'" + text + "'", Check.of(text).least(0, 0, 1), want);
  }

  private static void rowIs(NoonValley x, int hour, int k, int... want) {
    for (int one = 0; one < want.length; one++) {
      Check.same("from hour " + hour + " row " + k + " of " + one, x.found(0, 0, hour, k, one), want[one]);
    }
  }

  private static void found() {
    Check.promise(18, "found");
    NoonValley x = Check.of(PATH);
    rowIs(x, 1, 0, 1, 7, 7, 7);
    rowIs(x, 1, 1, 7, 2, 7, 7);
    rowIs(x, 22, 2, 7, 7, 3, 7);
    rowIs(x, 1, 3, NONE, NONE, NONE, NONE);
    rowIs(x, 23, 0, NONE, NONE, NONE, NONE);
    Check.same("k -1", x.found(0, 0, 1, -1, 0), NONE);
    Check.same("one 4", x.found(0, 0, 1, 0, 4), NONE);
    Check.same("one -1", x.found(0, 0, 1, 0, -1), NONE);
    Check.same("news 1, done at first", x.found(0, 1, 1, 0, 0), NONE);
    Check.same("news 4", x.found(0, 4, 1, 0, 0), NONE);
    Check.same("hour 0", x.found(0, 0, 0, 0, 0), NONE);
    Check.same("hour 25", x.found(0, 0, 25, 0, 0), NONE);
    Check.same("valley 1", x.found(1, 0, 1, 0, 0), NONE);
    NoonValley y = Check.of("p 5;l 0 1 1 24;l 0 2 1 24;l 0 3 1 24;l 2 4 1 24;l 2 1 1 24;k 0 0;"
        + "w 1 0;w 2 0;w 3 0;w 4 0");
    rowIs(y, 1, 0, 1, 7, 7, 7, 7);
    rowIs(y, 1, 1, 2, 7, 7, 7, 7);
    rowIs(y, 1, 2, 3, 7, 4, 7, 7);
    NoonValley v = Check.of("p 5;l 0 1 1 24;l 0 2 1 24;l 0 3 1 24;l 2 4 1 24;k 0 0;w 1 0;w 2 0;w 3 0;w 4 0");
    rowIs(v, 22, 0, 1, 7, 7, 7, 7);
    rowIs(v, 22, 1, 2, 7, 7, 7, 7);
    rowIs(v, 22, 2, 3, 7, 4, 7, 7);
    rowIs(v, 22, 3, NONE, NONE, NONE, NONE, NONE);
    NoonValley u = Check.of("p 5;l 0 1 1 24;l 0 2 1 24;l 2 3 1 24;l 3 4 1 24;k 0 0;w 1 0;w 2 0;w 3 0;w 4 0");
    rowIs(u, 1, 0, 2, 7, 7, 7, 7);
    rowIs(u, 1, 1, 1, 7, 3, 7, 7);
    rowIs(u, 1, 2, 7, 7, 7, 4, 7);
    NoonValley z = Check.of("p 4;l 0 1 1 24;l 0 2 1 24;l 0 3 1 24;d 2;s 1 0;k 0 0;w 2 0");
    rowIs(z, 1, 0, 2, 7, 7, 7);
    rowIs(z, 1, 1, 2, 7, 7, 7);
    NoonValley w = Check.of("p 4;l 0 1 1 24;l 0 2 2 24;l 3 1 1 24;k 0 0;k 3 0;w 2 0");
    rowIs(w, 1, 0, 1, 7, 7, 7);
    rowIs(w, 1, 1, 2, 7, 7, 7);
  }

  private static void reach() {
    Check.promise(19, "reach");
    NoonValley x = Check.of("p 6;l 0 1 1 1;l 0 2 3 24;l 0 3 3 24;o 0 4 3 24;l 1 5 3 3;d 2;k 0 0;k 5 1;s 5 1");
    int[] want = {1, 2, 2, 4, 6, 6};
    for (int k = 0; k < want.length; k++) {
      Check.same("after " + k, x.reach(0, 0, 1, k), want[k]);
    }
    Check.same("nothing open for long", x.reach(0, 0, 2, 1), 1);
    Check.same("twice what can know, not what could", x.reach(0, 0, 2, 2), 2);
    Check.same("to the last hour", x.reach(0, 0, 1, 24), 6);
    Check.same("beyond it", x.reach(0, 0, 1, 25), NONE);
    Check.same("hour 24", x.reach(0, 0, 24, 1), 2);
    Check.same("beyond hour 24", x.reach(0, 0, 24, 2), NONE);
    Check.same("after 0 from 24", x.reach(0, 0, 24, 0), 1);
    Check.same("who must not know is left out", x.reach(0, 1, 1, 5), 0);
    Check.same("k -1", x.reach(0, 0, 1, -1), NONE);
    Check.same("hour 0", x.reach(0, 0, 0, 0), NONE);
    Check.same("hour 25", x.reach(0, 0, 25, 0), NONE);
    Check.same("news 4", x.reach(0, 4, 1, 0), NONE);
    Check.same("valley 1", x.reach(1, 0, 1, 0), NONE);
    NoonValley y = Check.of("p 3;l 0 1 1 24;l 1 2 1 24;s 1 0;k 0 0");
    Check.same("not through who must not know", y.reach(0, 0, 1, 9), 1);
    x.down(0, 0, 1);
    Check.same("not by a line that is down", x.reach(0, 0, 1, 2), 1);
  }

  private static void from() {
    Check.promise(20, "from");
    NoonValley x = Check.of("p 4;l 0 1 1 24;l 1 2 1 24;l 2 3 1 24;k 0 0;w 1 0;w 2 0;w 3 0;d 2");
    x.plan(0);
    Check.same("as LEAST from hour 1", x.from(0, 0, 0), 4);
    x.call(0, 1, 1, 0, 1);
    x.call(0, 2, 1, 1, 2);
    Check.same("after hour 1", x.from(0, 0, 1), 3);
    Check.same("told once then", x.from(0, 0, 2), 2);
    Check.same("nothing goes on", x.from(0, 0, 9), 2);
    Check.same("just in time", x.from(0, 0, 22), 2);
    Check.same("too late", x.from(0, 0, 23), NONE);
    x.down(0, 2, 4);
    Check.same("with a line down", x.from(0, 0, 2), NONE);
    x.down(0, 2, 5);
    Check.same("with a line down later", x.from(0, 0, 2), 2);
    Check.same("nobody must know it", x.from(0, 1, 23), 0);
    Check.same("hour 24", x.from(0, 0, 24), NONE);
    Check.same("hour -1", x.from(0, 0, -1), NONE);
    Check.same("news 4", x.from(0, 4, 0), NONE);
    Check.same("plan 1", x.from(1, 0, 0), NONE);
  }

  private static void addedIs(String text, int a, int b, int spares) {
    NoonValley x = Check.of(text);
    Check.same("A of '" + text + "'", x.added(0, 0, 0), a);
    Check.same("B of '" + text + "'", x.added(0, 0, 1), b);
    Check.same("spared of '" + text + "'", x.added(0, 0, 2), spares);
  }

  private static void added() {
    Check.promise(21, "added");
    addedIs(PATH, 0, 2, 1);
    addedIs("p 3;l 0 1 1 24;l 0 2 1 24;l 1 2 1 24;k 0 0;w 1 0", NONE, NONE, NONE);
    addedIs("p 1;k 0 0", NONE, NONE, NONE);
    addedIs("p 2;k 0 0;w 1 0", 0, 1, 24);
    addedIs("p 2;w 1 0", 0, 1, 0);
    addedIs("p 3;o 1 0 1 24;k 0 0;w 1 0", 0, 2, 0);
    addedIs("p 3;o 2 1 1 24;k 0 0;w 1 0", 0, 1, 24);
    addedIs("p 3;o 2 1 1 24;o 1 0 3 3;k 0 0;w 1 0", 0, 2, 23);
    addedIs("p 3;k 0 0;w 2 0;s 2 0", 0, 1, 0);
    addedIs("p 4;l 0 1 1 24;l 0 2 9 24;k 0 0;w 1 0;w 2 0", 1, 2, 7);
    addedIs("p 3;l 0 2 1 24;k 0 0;w 2 0;d 2", 0, 1, 0);
    addedIs("p 3;o 2 0 1 24;l 0 1 23 23;k 0 0;w 2 0", 1, 2, 1);
    addedIs("p 3;l 0 1 1 24;k 0 0;w 2 0;s 2 0;k 1 0", 0, 2, 0);
    addedIs("p 4;o 2 0 1 24;l 0 1 1 24;k 0 0;w 2 0;s 3 0", 1, 2, 23);
    NoonValley x = Check.of("p 3;l 0 1 1 24;k 0 0;w 1 0");
    x.down(0, 0, 1);
    Check.same("a line that is down is a line", x.added(0, 0, 0), 0);
    Check.same("to another one", x.added(0, 0, 1), 2);
    Check.same("which alone spares nothing", x.added(0, 0, 2), 0);
    Check.same("what 3", x.added(0, 0, 3), NONE);
    Check.same("what -1", x.added(0, 0, -1), NONE);
    Check.same("news 4", x.added(0, 4, 0), NONE);
    Check.same("news -1", x.added(0, -1, 0), NONE);
    Check.same("valley 1", x.added(1, 0, 0), NONE);
  }

  private static void shut() {
    Check.promise(22, "shut");
    NoonValley x = Check.of("p 5;l 0 1 1 24;l 0 2 1 24;l 1 3 1 24;l 2 3 1 24;o 3 4 1 24;o 1 0 1 24;k 0 0;k 4 1");
    Check.same("the one at its end", x.shut(0, 0, 4, 1), 16);
    Check.same("the lower of two pairs", x.shut(0, 0, 3, 1), 3);
    Check.same("when it is under way", x.shut(0, 0, 3, 2), 12);
    Check.same("it comes ahead of that hour", x.shut(0, 0, 3, 3), NONE);
    Check.same("known at first", x.shut(0, 0, 0, 5), NONE);
    Check.same("no way at all", x.shut(0, 1, 0, 1), 0);
    Check.same("nobody knows it", x.shut(0, 2, 0, 1), 0);
    Check.same("one step an hour", x.shut(0, 0, 4, 3), 16);
    Check.same("at the end of the day", x.shut(0, 1, 3, 24), 0);
    Check.same("one 5", x.shut(0, 0, 5, 1), NONE);
    Check.same("one -1", x.shut(0, 0, -1, 1), NONE);
    Check.same("hour 0", x.shut(0, 0, 4, 0), NONE);
    Check.same("hour 25", x.shut(0, 0, 4, 25), NONE);
    Check.same("news 4", x.shut(0, 4, 4, 1), NONE);
    Check.same("valley 1", x.shut(1, 0, 4, 1), NONE);
    NoonValley y = Check.of("p 3;l 0 1 3 3;l 1 2 2 4;l 0 2 5 9;k 0 0");
    Check.same("by the hours", y.shut(0, 0, 2, 1), 5);
    Check.same("the way is gone by", y.shut(0, 0, 2, 4), 6);
    Check.same("it was there", y.shut(0, 0, 2, 5), NONE);
    NoonValley z = Check.of("p 2;l 0 1 1 1;l 0 1 1 2;l 0 1 1 3;l 1 0 1 4;o 0 1 2 5;o 1 0 1 24;k 0 0");
    Check.same("many", z.shut(0, 0, 1, 1), 31);
  }

  private static void fewest() {
    Check.promise(23, "fewest");
    fewestIs("p 1", 0);
    fewestIs("p 2", NONE);
    fewestIs("p 2;o 0 1 1 24", NONE);
    fewestIs("p 2;l 0 1 9 9", 1);
    fewestIs("p 3;l 0 1 1 1;l 1 2 1 1", 3);
    fewestIs("p 3;l 0 1 1 1;l 1 2 1 1;l 0 2 1 1", 3);
    fewestIs("p 4;l 0 1 1 24;l 1 2 1 24", NONE);
    fewestIs(PATH, 5);
    fewestIs(SQUARE, 4);
    fewestIs("p 5;l 0 1 1 1;l 0 2 1 1;l 0 3 1 1;l 0 4 1 1", 7);
    fewestIs("p 5;l 0 1 1 1;l 1 2 1 1;l 2 3 1 1;l 3 4 1 1;l 4 0 1 1", 7);
    fewestIs("p 5;l 0 1 1 1;l 1 2 1 1;l 2 3 1 1;l 3 0 1 1;l 4 0 1 1", 6);
    fewestIs("p 6;l 0 1 1 1;l 1 2 1 1;l 2 3 1 1;l 3 4 1 1;l 4 5 1 1", NONE);
    NoonValley x = Check.of(SQUARE);
    x.down(0, 0, 1);
    Check.same("at all hours", x.fewest(0), 4);
    Check.same("valley 1", x.fewest(1), NONE);
    Check.same("valley -1", x.fewest(-1), NONE);
  }

  private static void fewestIs(String text, int want) {
    NoonValley x = Check.of(text);
    Check.same("'" + text + "'", x.fewest(0), want);
    Check.same("again '" + text + "'", x.fewest(0), want);
  }

  private static void gossip() {
    Check.promise(24, "gossip");
    gossipIs(PATH, 0, 1, 2, 1, 0);
    gossipIs(SQUARE, 0, 2, 1, 3);
    gossipIs("p 4;o 0 1 1 1;l 0 1 1 1;l 1 0 1 1;l 1 2 1 1;l 2 3 1 1", 1, 3, 4, 3, 1);
    gossipIs("p 3;l 0 1 1 24;l 0 2 1 24;l 1 2 1 24", 0, 1, 0);
    gossipIs("p 1");
    NoonValley x = Check.of("p 2");
    Check.same("can't be done", x.gossip(0, 0), NONE);
    Check.same("i -1", x.gossip(0, -1), NONE);
    Check.same("valley 1", x.gossip(1, 0), NONE);
    Check.read(x, "p 6;l 0 1 1 1;l 1 2 1 1;l 2 3 1 1;l 3 4 1 1;l 4 5 1 1");
    Check.same("too many people", x.gossip(1, 0), NONE);
  }

  private static void gossipIs(String text, int... want) {
    NoonValley x = Check.of(text);
    for (int i = 0; i < want.length; i++) {
      Check.same("call " + i + " of '" + text + "'", x.gossip(0, i), want[i]);
    }
    Check.same("behind '" + text + "'", x.gossip(0, want.length), NONE);
    Check.same("before '" + text + "'", x.gossip(0, -1), NONE);
  }

  private static void ends() {
    Check.promise(25, "ends");
    int[] lower = {0, 1, 3, 4, 6, 8, 10};
    int[] upper = {0, 1, 3, 5, 7, 9, 11};
    StringBuilder text = new StringBuilder();
    for (int people = 1; people <= 7; people++) {
      if (people > 1) {
        text.append(";l ").append(people - 1).append(' ').append(people - 2).append(" 3 4");
      }
      NoonValley x = Check.of("p " + people + text);
      Check.same("lower of " + people, x.ends(0, 0), lower[people - 1]);
      Check.same("upper of " + people, x.ends(0, 1), upper[people - 1]);
      Check.same("what 2", x.ends(0, 2), NONE);
      Check.same("what -1", x.ends(0, -1), NONE);
    }
    NoonValley x = Check.of("p 3;l 0 1 1 24;o 1 2 1 24");
    Check.same("o lines do not hold", x.ends(0, 0), NONE);
    Check.same("nor so", x.ends(0, 1), NONE);
    Check.same("valley 1", x.ends(1, 0), NONE);
  }

  private static void tradeIs(NoonValley x, int h, int calls, int good) {
    Check.same("calls within " + h, x.trade(0, h, 0), calls);
    Check.same("good within " + h, x.trade(0, h, 1), good);
  }

  private static void trade() {
    Check.promise(26, "trade");
    NoonValley x = Check.of(SQUARE);
    tradeIs(x, 1, NONE, NONE);
    tradeIs(x, 2, 4, 1);
    tradeIs(x, 3, 4, 0);
    x.down(0, 3, 2);
    tradeIs(x, 2, 4, 1);
    x.down(0, 3, 1);
    tradeIs(x, 2, NONE, NONE);
    tradeIs(x, 3, 5, 1);
    tradeIs(x, 8, 5, 0);
    NoonValley y = Check.of("p 4;l 0 1 1 24;l 1 2 1 3;l 2 3 1 24;l 0 3 4 24;o 0 3 2 2");
    tradeIs(y, 2, NONE, NONE);
    tradeIs(y, 3, 5, 1);
    tradeIs(y, 4, 4, 1);
    tradeIs(y, 5, 4, 0);
    Check.same("h 0", y.trade(0, 0, 0), NONE);
    Check.same("h 9", y.trade(0, 9, 0), NONE);
    Check.same("what 2", y.trade(0, 4, 2), NONE);
    Check.same("what -1", y.trade(0, 4, -1), NONE);
    Check.same("valley 1", y.trade(1, 4, 0), NONE);
    tradeIs(Check.of("p 1"), 1, 0, 1);
    tradeIs(Check.of("p 1"), 2, 0, 0);
    tradeIs(Check.of("p 2;l 1 0 3 3"), 2, NONE, NONE);
    tradeIs(Check.of("p 2;l 1 0 3 3"), 3, 1, 1);
    tradeIs(Check.of("p 3;l 1 0 1 9;l 2 1 1 9"), 3, 3, 1);
    tradeIs(Check.of("p 5;l 0 1 1 9;l 1 2 1 9;l 2 3 1 9;l 3 4 1 9"), 8, NONE, NONE);
  }

  private static void card() {
    Check.promise(27, "card");
    NoonValley x = Check.of("p 7");
    Check.read(x, "p 2");
    for (int i = 1; i <= 6; i++) {
      Check.same("one more", x.card(0, 3, i % 2), i);
    }
    Check.same("there are six", x.card(0, 3, 0), NONE);
    Check.same("of another", x.card(0, 4, 3), 1);
    Check.same("of another valley", x.card(1, 0, 1), 1);
    Check.same("alike", x.card(0, 5, 5), NONE);
    Check.same("of 7", x.card(0, 7, 0), NONE);
    Check.same("of -1", x.card(0, -1, 0), NONE);
    Check.same("other 7", x.card(0, 0, 7), NONE);
    Check.same("other -1", x.card(0, 0, -1), NONE);
    Check.same("valley 2", x.card(2, 0, 1), NONE);
    Check.same("none of these is on it", x.card(0, 5, 0), 1);
  }

  private static void blank() {
    Check.promise(28, "blank");
    NoonValley x = Check.of("p 2;l 0 1 1 24");
    Check.read(x, "p 2;l 0 1 1 24");
    x.card(0, 0, 1);
    x.card(0, 1, 0);
    x.card(1, 0, 1);
    Check.no("valley 2", x.blank(2));
    Check.no("valley -1", x.blank(-1));
    Check.same("nothing changed", x.kept(0, 0), 1);
    Check.yes("valley 0", x.blank(0));
    Check.same("empty", x.kept(0, 0), NONE);
    Check.same("the other one too", x.kept(0, 1), NONE);
    Check.same("not of the other valley", x.kept(1, 0), 1);
    Check.same("the first again", x.card(0, 0, 1), 1);
    Check.yes("empty ones", x.blank(0));
  }

  private static NoonValley withCards(String text, int... couples) {
    NoonValley x = Check.of(text);
    for (int i = 0; i + 1 < couples.length; i += 2) {
      x.card(0, couples[i], couples[i + 1]);
    }
    return x;
  }

  private static void kept() {
    Check.promise(29, "kept");
    Check.same("alone", Check.of("p 1").kept(0, 0), 0);
    NoonValley path = withCards(PATH, 0, 1, 1, 2, 2, 3);
    Check.same("a path", path.kept(0, 0), 3);
    Check.same("from its middle", path.kept(0, 1), NONE);
    Check.same("one 4", path.kept(0, 4), NONE);
    Check.same("one -1", path.kept(0, -1), NONE);
    Check.same("valley 1", path.kept(1, 0), NONE);
    path.down(0, 2, 3);
    Check.same("a line down", path.kept(0, 0), NONE);
    Check.same("it waits for a line", withCards("p 3;l 0 1 5 9;l 0 2 1 24", 0, 1, 0, 2).kept(0, 0), 6);
    Check.same("may not call", withCards("p 2;o 1 0 1 24", 0, 1).kept(0, 0), NONE);
    Check.same("deaf", withCards("p 2;l 0 1 1 24;d 1", 0, 1, 0, 1).kept(0, 0), 2);
    Check.same("deaf, called once", withCards("p 2;l 0 1 1 24;d 1", 0, 1).kept(0, 0), NONE);
    Check.same("the last hour", withCards("p 2;l 0 1 24 24", 0, 1).kept(0, 0), 24);
    String all = "p 4;l 0 1 1 24;l 0 2 1 24;l 0 3 1 24;l 1 2 1 24;l 1 3 1 24;l 2 3 1 24";
    // Hour 2: 0 calls 2, so 1 waits; hour 3: 1 calls 2 though it knows; hour 4: 1 calls 3.
    Check.same("the lower one goes ahead", withCards(all, 0, 1, 0, 2, 1, 2, 1, 3).kept(0, 0), 4);
    // Hour 2: 0 calls 1 again, which calls 2 in that hour; hour 3: 1 calls 3.
    Check.same("who calls may be called", withCards(all, 0, 1, 0, 1, 1, 2, 1, 3).kept(0, 0), 3);
    Check.same("deaf, told by two in turn",
        withCards("p 3;l 0 1 1 24;l 0 2 1 24;l 1 2 1 24;d 2", 0, 1, 0, 2, 1, 2).kept(0, 0), 3);
  }

  private static void tree() {
    Check.promise(30, "tree");
    NoonValley x = Check.of("p 7;l 0 1 1 1;l 0 2 1 1;l 3 0 1 1;l 1 4 1 1;l 4 5 1 1;l 3 6 1 1;o 0 6 1 1");
    int[] times = {3, 2, 0, 1, 1, 0, 0};
    for (int one = 0; one < 7; one++) {
      Check.same("time of " + one, x.tree(0, 0, one, NONE), times[one]);
    }
    int[] card = {1, 3, 2, NONE};
    for (int i = 0; i < card.length; i++) {
      Check.same("card of 0: " + i, x.tree(0, 0, 0, i), card[i]);
    }
    Check.same("the other way round", x.tree(0, 5, 5, NONE), 5);
    Check.same("1 below 4", x.tree(0, 5, 4, 0), 1);
    Check.same("0 has two below it then", x.tree(0, 5, 0, NONE), 2);
    Check.same("3 first", x.tree(0, 5, 0, 0), 3);
    Check.same("then 2", x.tree(0, 5, 0, 1), 2);
    Check.same("then none", x.tree(0, 5, 0, 2), NONE);
    for (int one = 0; one < 7; one++) {
      Check.same("time of " + one + " again", x.tree(0, 0, one, NONE), times[one]);
    }
    Check.same("of those alone", x.tree(0, 6, 5, NONE), 0);
    Check.same("i -2", x.tree(0, 0, 0, -2), NONE);
    Check.same("first 7", x.tree(0, 7, 0, 0), NONE);
    Check.same("one 7", x.tree(0, 0, 7, 0), NONE);
    Check.same("one -1", x.tree(0, 0, -1, 0), NONE);
    Check.same("first -1", x.tree(0, -1, 0, 0), NONE);
    Check.same("valley 1", x.tree(1, 0, 0, 0), NONE);
    NoonValley star = Check.of("p 4;l 0 1 1 1;l 0 2 1 1;l 0 3 1 1");
    Check.same("a star", star.tree(0, 0, 0, NONE), 3);
    Check.same("of alike ones the lower", star.tree(0, 0, 0, 0), 1);
    Check.same("a ring is none", Check.of(SQUARE).tree(0, 0, 0, NONE), NONE);
    Check.same("two parts are none", Check.of("p 4;l 0 1 1 1;l 0 1 1 1;l 2 3 1 1").tree(0, 0, 0, NONE), NONE);
    Check.same("o lines make none", Check.of("p 2;o 0 1 1 1").tree(0, 0, 0, NONE), NONE);
    Check.same("alone", Check.of("p 1").tree(0, 0, 0, NONE), 0);
    Check.same("nobody below", Check.of("p 1").tree(0, 0, 0, 0), NONE);
  }

  private static void breaksIs(NoonValley x, int... want) {
    Check.same("how many", x.breaks(0, NONE), want.length);
    for (int i = 0; i < want.length; i++) {
      Check.same("the " + i, x.breaks(0, i), want[i]);
    }
    Check.same("behind", x.breaks(0, want.length), NONE);
  }

  private static void breaks() {
    Check.promise(31, "breaks");
    NoonValley x = Check.of("p 2;l 0 1 1 24;k 0 0;w 1 0");
    x.plan(0);
    breaksIs(x);
    x.call(0, 5, 1, 0, 1);
    breaksIs(x, 0);
    x.call(0, 3, 1, 1, 0);
    x.call(0, 4, 0, 1, 0);
    breaksIs(x, 0, 2);
    x.call(0, 5, 1, 1, 0);
    breaksIs(x, 0, 2);
    x.call(0, 1, 4, 0, 1);
    breaksIs(x, 0, 2, 4);
    x.call(0, 2, 2, 1, 0);
    Check.same("four are too many", x.breaks(0, NONE), NONE);
    Check.same("none of them", x.breaks(0, 0), NONE);
    Check.same("i -2", x.breaks(0, -2), NONE);
    Check.same("plan 1", x.breaks(1, NONE), NONE);
    Check.same("plan -1", x.breaks(-1, NONE), NONE);
    NoonValley y = Check.of("p 3;l 0 1 1 24;l 0 2 1 24;l 1 2 1 24;k 0 0;w 2 0");
    y.plan(0);
    y.call(0, 9, 1, 1, 2);
    y.call(0, 9, 1, 0, 2);
    y.call(0, 8, 1, 0, 1);
    y.call(0, 1, 1, 0, 1);
    breaksIs(y, 0);
    y.call(0, 10, 1, 0, 2);
    // Without 0 the call 1 would be lawful, were calls judged again.
    breaksIs(y, 0, 4);
    NoonValley z = Check.of("p 3;l 0 1 1 24;k 0 0;w 2 0");
    z.plan(0);
    z.call(0, 1, 1, 0, 1);
    breaksIs(z);
  }

  private static void breaker() {
    Check.promise(32, "breaker");
    NoonValley x = Check.of("p 4;l 0 1 1 24;l 0 2 1 24;l 1 3 1 24;l 2 3 1 24;k 0 0;w 3 0;k 1 0");
    x.plan(0);
    Check.same("it does not hold at all", x.breaker(0), 0);
    x.call(0, 2, 1, 1, 3);
    Check.same("1 alone tells it", x.breaker(0), 1);
    x.call(0, 1, 3, 0, 0);
    x.call(0, 3, 0, 3, 2);
    Check.same("a shout to the others is carried", x.breaker(0), NONE);
    Check.same("plan 1", x.breaker(1), NONE);
    Check.same("plan -1", x.breaker(-1), NONE);
    NoonValley y = Check.of("p 2;l 0 1 1 24;k 0 0;w 1 0;w 0 1");
    y.plan(0);
    y.call(0, 1, 1, 0, 1);
    Check.same("without 0, 1 does not know", y.breaker(0), 0);
    NoonValley z = Check.of("p 2;k 0 0;w 1 0");
    z.plan(0);
    Check.same("without 0 it fails still", z.breaker(0), 0);
    NoonValley w = Check.of("p 2;k 0 0;w 0 1");
    w.plan(0);
    Check.same("without 1 it fails, without 0 not", w.breaker(0), 1);
    NoonValley v = Check.of("p 1;w 0 0");
    v.plan(0);
    Check.same("nobody else need know", v.breaker(0), NONE);
  }

  private static void ways() {
    Check.promise(33, "ways");
    Check.same("2 1 1", Check.of("p 1").ways(2, 1, 1), 0);
    NoonValley x = new NoonValley();
    Check.same("2 8 2", x.ways(2, 8, 2), 1);
    Check.same("3 1 2", x.ways(3, 1, 2), 8);
    Check.same("3 2 2", x.ways(3, 2, 2), 16);
    Check.same("3 2 3", x.ways(3, 2, 3), 48);
    Check.same("4 1 2", x.ways(4, 1, 2), 81);
    Check.same("4 2 2", x.ways(4, 2, 2), 729);
    Check.same("4 2 3", x.ways(4, 2, 3), 4374);
    Check.same("4 2 4", x.ways(4, 2, 4), 1458);
    long sum = 0;
    for (int k = 1; k <= 4; k++) {
      sum += x.ways(4, 8, k);
    }
    Check.same("all choices of 8 hours", sum, 1853020188851841L);
    Check.same("4 8 2", x.ways(4, 8, 2), 387420489L);
    int[][] wrong = {{1, 1, 1}, {5, 1, 1}, {3, 0, 1}, {3, 9, 1}, {3, 1, 0}, {3, 1, 4}, {-1, -1, -1}};
    for (int[] w : wrong) {
      Check.same("out of bounds", x.ways(w[0], w[1], w[2]), -1);
    }
  }

  private static void drawn() {
    Check.promise(34, "drawn");
    NoonValley x = new NoonValley();
    Check.same("two", x.drawn(2, 1, -7L), 1);
    Check.same("1 people", x.drawn(1, 0, 5L), NONE);
    Check.same("8 people", x.drawn(8, 0, 5L), NONE);
    Check.same("first -1", x.drawn(3, -1, 5L), NONE);
    Check.same("first 3", x.drawn(3, 3, 5L), NONE);
    for (long seed = -50; seed < 50; seed++) {
      for (int people = 2; people <= 7; people++) {
        long far = seed * 0x123456789ABCDEFL;
        Check.same("drawn " + people + " of " + far, x.drawn(people, people - 2, far),
            drawnByHand(people, people - 2, far));
      }
    }
  }

  private static int drawnByHand(int people, int first, long seed) {
    java.math.BigInteger x = java.math.BigInteger.valueOf(seed);
    java.math.BigInteger factor = new java.math.BigInteger("6364136223846793005");
    java.math.BigInteger summand = new java.math.BigInteger("1442695040888963407");
    java.util.Set<Integer> know = new java.util.TreeSet<>();
    know.add(first);
    for (int hour = 1; hour <= 60; hour++) {
      java.util.Set<Integer> later = new java.util.TreeSet<>(know);
      for (int one = 0; one < people; one++) {
        x = x.multiply(factor).add(summand).mod(java.math.BigInteger.ONE.shiftLeft(64));
        java.util.List<Integer> others = new java.util.ArrayList<>();
        for (int other = 0; other < people; other++) {
          if (other != one) {
            others.add(other);
          }
        }
        int place = x.shiftRight(33).mod(java.math.BigInteger.valueOf(people - 1)).intValue();
        if (know.contains(one)) {
          later.add(others.get(place));
        }
      }
      know = later;
      if (know.size() == people) {
        return hour;
      }
    }
    return NONE;
  }

  private static void tale() {
    Check.promise(35, "tale");
    NoonValley x = Check.of(PATH);
    Check.yes("at first", x.tale(0, 0, 0, 0));
    Check.yes("hour 24", x.tale(0, 3, 3, 24));
    Check.yes("not told", x.tale(0, 0, 1, NONE));
    Check.no("hour 25", x.tale(0, 0, 0, 25));
    Check.no("hour -2", x.tale(0, 0, 0, -2));
    Check.no("news 4", x.tale(0, 4, 0, 0));
    Check.no("news -1", x.tale(0, -1, 0, 0));
    Check.no("one 4", x.tale(0, 0, 4, 0));
    Check.no("one -1", x.tale(0, 0, -1, 0));
    Check.no("valley 1", x.tale(1, 0, 0, 0));
    Check.same("the tale stands", x.who(0, 0), 1);
    x.tale(0, 0, 0, 5);
    x.tale(0, 0, 1, 4);
    Check.same("the latest word counts", x.who(0, 0), 12);
  }

  private static void who() {
    Check.promise(36, "who");
    NoonValley x = Check.of("p 4;l 0 1 1 24;l 1 2 1 24;l 2 3 5 24;k 0 0;s 0 1;d 3");
    Check.same("no tales", x.who(0, 0), 15);
    Check.same("who must not know may have known", x.who(0, 1), 15);
    x.tale(0, 1, 1, 3);
    Check.same("but told nobody", x.who(0, 1), 4);
    x.tale(0, 0, 3, 5);
    Check.same("deaf and told but once", x.who(0, 0), 0);
    x.tale(0, 0, 3, 6);
    Check.same("told twice", x.who(0, 0), 7);
    x.tale(0, 0, 1, 5);
    Check.same("2 has no time for 1 then", x.who(0, 0), 0);
    x.tale(0, 0, 1, 4);
    Check.same("2 has, but 0 not in time", x.who(0, 0), 4);
    x.tale(0, 0, 1, 3);
    Check.same("in time from 0", x.who(0, 0), 5);
    x.down(0, 0, 3);
    Check.same("a line down", x.who(0, 0), 4);
    x.tale(0, 0, 2, 0);
    Check.same("told of itself", x.who(0, 0), 4);
    x.tale(0, 0, 2, 1);
    Check.same("told otherwise", x.who(0, 0), 0);
    Check.same("news 4", x.who(0, 4), NONE);
    Check.same("news -1", x.who(0, -1), NONE);
    Check.same("valley 1", x.who(1, 0), NONE);
    NoonValley y = Check.of("p 3;l 0 1 1 24;l 0 2 1 24");
    y.tale(0, 0, 1, 1);
    y.tale(0, 0, 2, 1);
    Check.same("two in one hour", y.who(0, 0), 0);
    y.tale(0, 0, 2, 2);
    Check.same("one behind the other", y.who(0, 0), 1);
    y.tale(0, 0, 0, 0);
    y.tale(0, 0, 1, 0);
    Check.same("two at first", y.who(0, 0), 0);
  }

  private static void fits() {
    Check.promise(37, "fits");
    NoonValley x = Check.of(PATH);
    x.plan(0);
    x.call(0, 2, 1, 0, 1);
    x.call(0, 7, 1, 1, 2);
    Check.same("no tales", x.fits(0, 0), NONE);
    x.tale(0, 0, 0, 0);
    x.tale(0, 0, 1, 2);
    x.tale(0, 0, 2, 7);
    Check.same("all true", x.fits(0, 0), NONE);
    x.tale(0, 0, 3, 9);
    Check.same("never", x.fits(0, 0), 3);
    x.tale(0, 0, 2, 6);
    Check.same("too early a tale", x.fits(0, 0), 2);
    x.tale(0, 0, 1, 3);
    Check.same("too late a tale", x.fits(0, 0), 1);
    x.tale(0, 0, 0, 1);
    Check.same("at first, not later", x.fits(0, 0), 0);
    x.tale(0, 0, 0, NONE);
    x.tale(0, 0, 1, NONE);
    x.tale(0, 0, 2, NONE);
    x.tale(0, 0, 3, 24);
    x.call(0, 24, 1, 2, 3);
    Check.same("in the last hour", x.fits(0, 0), NONE);
    Check.same("another news", x.fits(0, 1), NONE);
    x.tale(0, 1, 2, 0);
    Check.same("not at first", x.fits(0, 1), 2);
    Check.same("news 4", x.fits(0, 4), NONE);
    Check.same("news -1", x.fits(0, -1), NONE);
    Check.same("plan 1", x.fits(1, 0), NONE);
    Check.same("plan -1", x.fits(-1, 0), NONE);
  }

  private static void count() {
    Check.promise(38, "count");
    NoonValley x = Check.of(PATH);
    Check.read(x, "p 2");
    x.plan(0);
    x.plan(1);
    x.plan(0);
    x.call(0, 1, 0, 0, 1);
    x.call(2, 1, 0, 3, 0);
    x.call(1, 1, 0, 0, 2);
    Check.feed(x, "p 12345");
    int[] want = {2, 3, 2, 7, NONE};
    for (int what = 0; what < want.length; what++) {
      Check.same("count " + what, x.count(what), want[what]);
    }
    Check.same("what -1", x.count(-1), NONE);
  }
}
