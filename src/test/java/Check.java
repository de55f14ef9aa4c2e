/** Counts what is as due, prints what is not, and helps with texts. */
final class Check {
  private static int asDue = 0;
  private static int notAsDue = 0;
  private static String about = "";

  private Check() {
  }

  static void promise(int number, String name) {
    about = "promise " + number + " (" + name + ")";
  }

  static void same(String what, long got, long want) {
    if (got == want) {
      asDue++;
    } else {
      notAsDue++;
      System.out.println(about + ": " + what + " answered " + got + ", due is " + want);
    }
  }

  static void yes(String what, boolean got) {
    same(what, got ? 1 : 0, 1);
  }

  static void no(String what, boolean got) {
    same(what, got ? 1 : 0, 0);
  }

  /** Feeds a text of signs 1 to 255, twenty at a time; tells the last answer. */
  static int feed(NoonValley x, String text) {
    int last = x.count(3);
    for (int start = 0; start < text.length(); start += 20) {
      int[] numbers = new int[5];
      for (int i = 0; i < 20 && start + i < text.length(); i++) {
        numbers[i / 4] |= (text.charAt(start + i) & 255) << 24 - 8 * (i % 4);
      }
      last = x.feed(numbers[0], numbers[1], numbers[2], numbers[3], numbers[4]);
    }
    return last;
  }

  /** One valley more, read from a text on an empty tape. */
  static int read(NoonValley x, String text) {
    x.end(0);
    feed(x, text);
    return x.valley();
  }

  static NoonValley of(String text) {
    NoonValley x = new NoonValley();
    if (read(x, text) != 0) {
      throw new IllegalStateException("no valley: " + text);
    }
    return x;
  }

  static int faultOf(String text) {
    NoonValley x = new NoonValley();
    feed(x, text);
    return x.fault();
  }

  static void finish() {
    System.out.println(asDue + " checks as due, " + notAsDue + " not");
    if (notAsDue != 0) {
      System.exit(1);
    }
  }
}
