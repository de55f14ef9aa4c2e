/**
 * The edges that the document names, sentence by sentence: the last case that is well, the first one that
 * is not, and what is full. No object here is used for more than 512 calls.
 */
public final class EdgesTest {
  private static final int NONE = NoonValley.NONE;

  public static void main(String[] args) {
    peopleOfText();
    peopleOfStatements();
    newsOfStatements();
    hoursOfLines();
    thirdDigits();
    blanks();
    endsTooEarly();
    wrongBytes();
    twelveLines();
    oneTextAhead();
    toldTwice();
    fullTape();
    cutTape();
    tenValleys();
    downHours();
    twelvePlans();
    fortyCalls();
    kinds();
    mayNumbers();
    deafOnes();
    knownHours();
    brokenAndDone();
    togetherOnes();
    leastHours();
    foundRows();
    reachEnds();
    fromHere();
    addedLines();
    shutOff();
    fewestCalls();
    endsOfAny();
    tradeHours();
    sixOnCards();
    keptHours();
    treeLines();
    brokenByCalls();
    brokenByHighCalls();
    brokenByOne();
    waysOfAll();
    drawnRound();
    drawnLong();
    taleHours();
    begun();
    fitting();
    counting();
    Check.finish();
  }

  private static void faultIs(String text, int want) {
    Check.same("'" + text + "'", Check.faultOf(text), want);
  }

  private static String two(int n) {
    return n < 10 ? "0" + n : "" + n;
  }

  /** A number of one digit and of two, in a text: well, or a fault at its last digit. */
  private static void number(String ahead, int n, String behind, boolean well) {
    if (n < 10) {
      faultIs(ahead + " " + n + behind, well ? NONE : ahead.length() + 1);
    }
    faultIs(ahead + " " + two(n) + behind, well ? NONE : ahead.length() + 2);
  }

  // ==== 1. The text.

  private static void peopleOfText() {
    Check.promise(4, "how many people");
    for (int n = 0; n < 100; n++) {
      number("p", n, "", n >= 1 && n <= 7);
    }
  }

  private static void peopleOfStatements() {
    Check.promise(4, "people");
    for (int people = 1; people <= 7; people++) {
      String p = "p " + people;
      for (int n = 0; n < 100; n += n < 12 ? 1 : 29) {
        boolean well = n < people;
        number(p + ";d", n, "", well);
        number(p + ";k", n, " 0", well);
        number(p + ";w", n, " 3", well);
        number(p + ";s", n, " 1", well);
        for (int other = 0; other < people && people > 1; other++) {
          // An A that is the B stands here faults at the B behind it, see below.
          if (n != other) {
            number(p + ";l", n, " " + other + " 1 24", well);
            number(p + ";o", n, " " + other + " 1 24", well);
          }
          number(p + ";l " + other, n, " 1 24", well && n != other);
          number(p + ";o " + other, n, " 1 24", well && n != other);
        }
      }
    }
    faultIs("p 1;l 0 0 1 24", 8);
    faultIs("p 1;l 0 1 1 24", 8);
    faultIs("p 1;o 1 0 1 24", 6);
  }

  private static void newsOfStatements() {
    Check.promise(4, "news");
    for (int n = 0; n < 100; n++) {
      number("p 2;k 1", n, "", n < 4);
      number("p 2;w 1", n, "", n < 4);
      number("p 2;s 1", n, "", n < 4);
    }
  }

  private static void hoursOfLines() {
    Check.promise(4, "hours of lines");
    for (int from = 0; from < 100; from += from < 30 ? 1 : 23) {
      boolean well = from >= 1 && from <= 24;
      number("p 2;l 0 1", from, " 24", well);
      number("p 2;o 1 0", from, " 24", well);
      for (int to = 0; to < 100 && well; to += to < 30 ? 1 : 23) {
        number("p 2;l 0 1 " + from, to, "", to >= from && to <= 24);
        number("p 2;o 0 1 " + two(from), to, " ", to >= from && to <= 24);
      }
    }
  }

  private static void thirdDigits() {
    Check.promise(4, "a third digit");
    String[] ahead = {"p 01", "p 3;d 02", "p 3;k 02", "p 3;k 2 03", "p 3;w 00", "p 3;w 0 00", "p 3;s 01",
        "p 3;s 1 01", "p 3;l 00", "p 3;l 0 01", "p 3;l 0 1 01", "p 3;l 0 1 24", "p 3;l 0 1 1 24", "p 3;o 02",
        "p 3;o 2 01", "p 3;o 2 1 10", "p 3;o 2 1 10 24"};
    for (String text : ahead) {
      for (char digit = '0'; digit <= '9'; digit++) {
        faultIs(text + digit, text.length());
        faultIs(text + digit + " 1 1 1", text.length());
      }
    }
  }

  private static void blanks() {
    Check.promise(4, "blanks");
    String[] words = {"p", "3", ";", "l", "0", "1", "2", "24", ";", "d", "2", ";", "k", "1", "3"};
    for (int many = 1; many <= 12; many += 11) {
      StringBuilder text = new StringBuilder();
      for (String word : words) {
        text.append(" ".repeat(many)).append(word);
      }
      faultIs(text + " ".repeat(many), NONE);
      faultIs(text.toString(), NONE);
    }
    // Without one ahead of each number in turn, and with another sign instead.
    for (int i = 0; i < words.length; i++) {
      StringBuilder ahead = new StringBuilder();
      for (int k = 0; k < i; k++) {
        ahead.append(' ').append(words[k]);
      }
      boolean isNumber = Character.isDigit(words[i].charAt(0));
      boolean joined = isNumber && i > 0 && Character.isDigit(words[i - 1].charAt(0));
      if (isNumber && !joined) {
        faultIs(ahead + words[i], ahead.length());
      }
      for (char sign : new char[] {'\t', '\n', 11, 31, 33, '_', 127, 128, 160, 255}) {
        faultIs(ahead.toString() + sign + words[i], ahead.length());
        faultIs(ahead + " " + sign + words[i], ahead.length() + 1);
      }
    }
    faultIs("p 0 7", 2);
    faultIs("p 1 2", 4);
    faultIs("p 3;d 1 2", 8);
    faultIs("p 3;;", 4);
    faultIs("p 3; ;", 5);
    faultIs("p 3;d 1;", 8);
    faultIs("p 3 ;  d 1  ;  ", 15);
    faultIs(";p 3", 0);
  }

  /** A text all of whose starts are well as far as they go: its numbers are well at each digit. */
  private static final String LONG =
      " p 7 ; l 0 1 1 24; o 6 5 2 24 ;k 0 0 ; d 1;w 1 3; s  02 02;l 1 0 10 10";

  private static void endsTooEarly() {
    Check.promise(4, "ends too early");
    String number = " +[0-9][0-9]?";
    String line = "[lo](" + number + "){4}";
    String whole = " *p" + number + "( *; *(" + line + "|d" + number + "|[kws](" + number + "){2}))* *";
    // Of the last 10 the first digit alone would be a T below F.
    for (int length = 0; length < LONG.length() - 1; length++) {
      String text = LONG.substring(0, length);
      faultIs(text, text.matches(whole) ? NONE : length);
    }
    faultIs(LONG.substring(0, LONG.length() - 1), LONG.length() - 2);
    faultIs(LONG, NONE);
  }

  private static void wrongBytes() {
    Check.promise(4, "a wrong byte");
    for (int place = 0; place < LONG.length(); place++) {
      String text = LONG.substring(0, place) + 'x' + LONG.substring(place + 1);
      // Of two digits the first alone, in the last number, would be a T below F.
      faultIs(text, place == LONG.length() - 1 ? place - 1 : place);
    }
    for (int one = 1; one < 256; one++) {
      char sign = (char) one;
      if ("lokdws ".indexOf(sign) < 0) {
        faultIs("p 3;" + sign, 4);
      }
      if ("; 0123456789".indexOf(sign) < 0) {
        faultIs("p 3" + sign, 3);
      }
      if ("0123456789 ".indexOf(sign) < 0) {
        faultIs("p 3;d " + sign, 6);
      }
    }
  }

  private static String lines(int number) {
    StringBuilder text = new StringBuilder("p 3");
    for (int i = 0; i < number; i++) {
      text.append(i % 3 == 1 ? ";o 1 2 " : ";l 0 2 ").append(i + 1).append(" 24");
    }
    return text.toString();
  }

  private static void twelveLines() {
    Check.promise(4, "twelve lines");
    for (int number = 0; number <= 12; number++) {
      faultIs(lines(number), NONE);
    }
    String full = lines(12);
    for (String more : new String[] {"l", "o", "l 0 1 1 24", "o 9", "lx"}) {
      faultIs(full + ";" + more, full.length() + 1);
      faultIs(full + "; " + more, full.length() + 2);
      faultIs(full + ";d 1;" + more, full.length() + 5);
    }
    for (String more : new String[] {"d 1", "k 1 1", "w 2 2", "s 0 3"}) {
      faultIs(full + ";" + more, NONE);
    }
    NoonValley x = Check.of(full + ";d 1");
    Check.promise(6, "told");
    Check.same("twelve", x.told(0, 1), 12);
    Check.promise(7, "line");
    for (int line = 0; line < 12; line++) {
      Check.same("as they stand: F of " + line, x.line(0, line, 2), line + 1);
      Check.same("as they stand: A of " + line, x.line(0, line, 0), line % 3 == 1 ? 1 : 0);
      Check.same("as they stand: who may call by " + line, x.line(0, line, 4), line % 3 == 1 ? 1 : 0);
    }
  }

  private static void oneTextAhead() {
    Check.promise(4, "p behind the first one");
    faultIs("p 3;p 3", 4);
    faultIs("p 3 ;  p", 7);
    faultIs("p 3;d 1;l 0 1 1 2; p 3", 19);
    faultIs("p p 3", 2);
    faultIs("d 1;p 3", 0);
    faultIs("l 0 1 1 24", 0);
  }

  private static void toldTwice() {
    Check.promise(5, "told twice");
    NoonValley x = Check.of("p 3;k 1 2;k 1 2;d 2;d 2;d 02;w 0 3;w 0 3;s 2 0;s 2 0;k 01 02;w 1 2;s 1 2;l 0 1 1 1;l 0 1 1 1");
    int[] want = {3, 2, 4, NONE, 0, 0, 2, 0, 0, 0, 2, 1, 4, 0, 2, 0};
    for (int what = 0; what < want.length; what++) {
      Check.same("told " + what, x.told(0, what), want[what]);
    }
  }

  // The tape and the valleys.

  private static void fullTape() {
    Check.promise(2, "feed");
    String text = "p 3;d 2" + " ".repeat(392);
    NoonValley x = new NoonValley();
    Check.same("399 bytes", Check.feed(x, text), 399);
    Check.same("two more are refused", x.feed(0, 0, 0, 0, 0x3b64), NONE);
    Check.same("as before", x.count(3), 399);
    Check.same("still a valley", x.fault(), NONE);
    Check.same("one more is well", x.feed(0, 0, 0x3b000000, 0, 0), 400);
    Check.same("and stands at the end", x.fault(), 400);
    for (int place = 0; place < 20; place++) {
      int[] n = new int[5];
      n[place / 4] = 1 << 24 - 8 * (place % 4);
      Check.same("a 401st", x.feed(n[0], n[1], n[2], n[3], n[4]), NONE);
    }
    Check.same("400", x.count(3), 400);
    Check.same("as it was", x.fault(), 400);
    Check.same("no bytes are well", x.feed(0, 0, 0, 0, 0), 400);
    Check.yes("399 of them", x.end(399));
    Check.same("a valley of 399", x.valley(), 0);
    Check.same("empty", x.count(3), 0);
    Check.same("400 fit again", Check.feed(x, text + " "), 400);
    Check.same("a valley of 400", x.valley(), 1);
    orderOfBytes();
  }

  private static void orderOfBytes() {
    // "p 7;d 6;d 5;d 4;d 3" with bytes of 0 left out wherever they stand.
    NoonValley x = new NoonValley();
    Check.same("20 of 20", x.feed(0x7020373b, 0x6420363b, 0x6420353b, 0x6420343b, 0x64203320), 20);
    Check.same("they make", x.valley(), 0);
    Check.same("this valley", x.told(0, 2), 120);
    Check.same("3 of 20", x.feed(0x00700000, 0x00000020, 0, 0x37000000, 0), 3);
    Check.same("one of 7", x.valley(), 1);
    Check.same("7", x.told(1, 0), 7);
    Check.same("bytes of 255 count", x.feed(-1, -1, -1, -1, -1), 20);
    Check.same("but are wrong", x.fault(), 0);
  }

  private static void cutTape() {
    Check.promise(3, "end");
    NoonValley x = new NoonValley();
    String text = "p 7;d 1;d 2;k 0 1";
    Check.feed(x, text);
    Check.no("one more than it has", x.end(18));
    Check.no("below 0", x.end(-1));
    Check.same("nothing changed", x.count(3), 17);
    Check.yes("all of it", x.end(17));
    Check.same("nothing is gone", x.fault(), NONE);
    for (int n = 16; n >= 0; n--) {
      Check.yes("the first " + n, x.end(n));
      Check.same("so many", x.count(3), n);
      Check.same("as the text alone", x.fault(), Check.faultOf(text.substring(0, n)));
      Check.no("what is gone is gone", x.end(n + 1));
    }
    Check.yes("none of none", x.end(0));
  }

  private static void tenValleys() {
    Check.promise(5, "valley");
    NoonValley x = new NoonValley();
    for (int i = 0; i < 10; i++) {
      Check.feed(x, "p 3;d " + i % 3 + ";d 3");
      Check.same("a fault", x.valley(), NONE);
      Check.same("counts for nothing", x.count(0), i);
      Check.same("stays", x.count(3), 11);
      Check.same("no such one yet", x.told(i, 0), NONE);
      x.end(7);
      Check.same("numbered as read", x.valley(), i);
      Check.same("taken", x.count(3), 0);
      Check.same("an empty tape", x.valley(), NONE);
    }
    Check.feed(x, "p 7;l 0 1 1 24;d 6");
    Check.same("there are ten", x.valley(), NONE);
    Check.same("the tape stays", x.count(3), 18);
    Check.same("without a fault", x.fault(), NONE);
    Check.same("ten", x.count(0), 10);
    for (int i = 0; i < 10; i++) {
      Check.same("as read", x.told(i, 2), 1 << i % 3);
      Check.same("of three", x.told(i, 0), 3);
    }
    Check.same("no eleventh", x.told(10, 0), NONE);
    Check.same("no plan of it", x.plan(10), NONE);
    Check.same("a plan of the tenth", x.plan(9), 0);
  }

  private static void downHours() {
    Check.promise(8, "down");
    NoonValley x = Check.of("p 2;l 0 1 3 22;o 1 0 3 3");
    for (int from = 1; from <= 24; from++) {
      Check.yes("from " + from, x.down(0, 0, from));
      Check.same("told", x.line(0, 0, 5), from);
      if (from > 1) {
        Check.same("an hour ahead", x.may(0, 0, 1, from - 1), from - 1 >= 3 && from - 1 <= 22 ? 1 : 0);
      }
      Check.same("in that hour", x.may(0, 0, 1, from), 0);
      Check.same("in the last hour", x.may(0, 0, 1, 24), 0);
      Check.same("the other line stands", x.may(0, 1, 0, 3), 1);
    }
    Check.no("hour 0", x.down(0, 0, 0));
    Check.no("hour 25", x.down(0, 0, 25));
    Check.same("the latest word", x.line(0, 0, 5), 24);
    Check.yes("an earlier hour later", x.down(0, 0, 4));
    Check.same("counts", x.may(0, 0, 1, 4), 0);
    Check.yes("a later hour later", x.down(0, 0, 23));
    Check.same("counts", x.may(0, 0, 1, 22), 1);
    Check.yes("not at all", x.down(0, 0, NONE));
    Check.same("none", x.line(0, 0, 5), NONE);
    Check.yes("not at all again", x.down(0, 0, NONE));
    int[] want = {0, 0, 1, 1, 1, 0};
    int[] hours = {1, 2, 3, 4, 22, 23};
    for (int i = 0; i < hours.length; i++) {
      Check.same("open in " + hours[i], x.may(0, 0, 1, hours[i]), want[i]);
    }
  }

  // ==== 2. Plans.

  private static void twelvePlans() {
    Check.promise(10, "plan");
    NoonValley x = Check.of("p 2;l 0 1 1 24;k 0 0");
    for (int plan = 0; plan < 12; plan++) {
      Check.same("one more", x.plan(0), plan);
      for (int call = 0; call < 40; call++) {
        int hour = 1 + (call + plan) % 24;
        if (x.call(plan, hour, 1, call % 2, 1 - call % 2) != call) {
          Check.same("call of " + plan, NONE, call);
        }
      }
    }
    Check.same("there are twelve", x.plan(0), NONE);
    Check.same("twelve", x.count(1), 12);
    Check.promise(38, "count");
    Check.same("480 calls of all", x.count(2), 480);
    Check.same("the last of the last", x.lawful(11, 39), 2);
    Check.same("behind it", x.lawful(11, 40), NONE);
    Check.same("no thirteenth", x.known(12, 0, 0), NONE);
  }

  private static void fortyCalls() {
    Check.promise(11, "call");
    NoonValley x = Check.of("p 3;l 0 1 1 24;l 1 2 1 24;k 0 0;w 1 0");
    x.plan(0);
    x.plan(0);
    for (int call = 0; call < 39; call++) {
      Check.same("numbered as told", x.call(0, 24 - call % 24, 2, 0, 1), call);
    }
    Check.same("refused ones", x.call(0, 25, 2, 0, 1), NONE);
    Check.same("have no number", x.call(0, 1, 5, 0, 1), NONE);
    Check.same("not told yet", x.known(0, 1, 24), 0);
    Check.same("the 40th", x.call(0, 16, 1, 0, 1), 39);
    Check.same("it comes second in that hour", x.lawful(0, 39), 2);
    Check.same("the 41st", x.call(0, 1, 1, 0, 1), NONE);
    Check.same("a shout too", x.call(0, 1, 3, 0, 1), NONE);
    Check.same("has no MAY", x.lawful(0, 40), NONE);
    Check.same("40", x.count(2), 40);
    Check.same("nor does it carry", x.known(0, 1, 24), 0);
    Check.same("the other plan goes on", x.call(1, 1, 1, 0, 1), 0);
    Check.same("41 of all", x.count(2), 41);
    Check.same("the first unlawful one, by number", x.unlawful(0), 24);
  }

  private static void kinds() {
    Check.promise(11, "kinds");
    // 0 knows the news 0 and 1, 1 the news 2, which 0 must not know; 1 must not know the news 1.
    int[] wantCaller = {7, 3, 7, 3, 3};
    int[] wantOther = {7, 7, 4, 7, 5};
    for (int kind = -1; kind <= 5; kind++) {
      NoonValley x = Check.of("p 3;l 0 1 1 24;k 0 0;k 0 1;k 1 2;s 1 1;w 1 0;s 0 2");
      x.plan(0);
      boolean well = kind >= 0 && kind <= 4;
      Check.same("kind " + kind, x.call(0, 1, kind, 0, 1), well ? 0 : NONE);
      Check.same("calls", x.count(2), well ? 1 : 0);
      Check.same("the caller knows", x.known(0, 0, 1), well ? wantCaller[kind] : 3);
      Check.same("the other knows", x.known(0, 1, 1), well ? wantOther[kind] : 4);
      Check.same("nobody else", x.known(0, 2, 24), 0);
    }
    NoonValley y = Check.of("p 4;l 0 1 3 3;o 0 2 3 4;o 3 0 3 3;k 0 0");
    y.plan(0);
    for (int hour = 2; hour <= 5; hour++) {
      y.call(0, hour, 3, 0, 0);
    }
    int[] verdicts = {1, 0, 0, 1};
    for (int call = 0; call < 4; call++) {
      Check.same("a shout in hour " + (call + 2), y.lawful(0, call), verdicts[call]);
    }
    int[] knows = {1, 1, 1, 0};
    for (int one = 0; one < 4; one++) {
      Check.same("whom it may call hears it: " + one, y.known(0, one, 3), knows[one]);
    }
  }

  private static void lawfulIs(NoonValley x, int plan, int... want) {
    for (int call = 0; call < want.length; call++) {
      Check.same("call " + call + " of plan " + plan, x.lawful(plan, call), want[call]);
    }
    int first = NONE;
    for (int call = want.length - 1; call >= 0; call--) {
      first = want[call] != 0 ? call : first;
    }
    Check.same("the first that is not", x.unlawful(plan), first);
  }

  private static void mayNumbers() {
    Check.promise(12, "lawful");
    NoonValley x = Check.of("p 6;l 0 1 1 24;l 1 2 1 24;l 2 3 5 24;o 3 4 1 24;l 0 5 1 24;k 0 0");
    for (int plan = 0; plan < 4; plan++) {
      x.plan(0);
    }
    // All three reasons at once, then two of them, then one: the lowest counts.
    x.call(0, 5, 0, 0, 1);
    x.call(0, 5, 0, 1, 0);
    x.call(0, 5, 0, 0, 3);
    x.call(0, 5, 0, 0, 5);
    x.call(0, 5, 0, 5, 0);
    x.call(0, 5, 0, 2, 1);
    x.call(0, 5, 0, 2, 3);
    lawfulIs(x, 0, 0, 2, 1, 2, 3, 3, 0);
    // An unlawful call takes nobody's time, and one with a higher number none at all.
    x.call(1, 4, 0, 2, 3);
    x.call(1, 4, 0, 1, 2);
    x.call(1, 4, 0, 0, 1);
    x.call(1, 4, 0, 0, 5);
    x.call(1, 3, 0, 0, 1);
    x.call(1, 5, 0, 0, 1);
    lawfulIs(x, 1, 1, 0, 3, 0, 0, 0);
    // Shouts: all whom it would reach take part in it.
    x.call(2, 5, 3, 2, 0);
    x.call(2, 5, 1, 0, 1);
    x.call(2, 5, 1, 3, 4);
    x.call(2, 5, 3, 5, 0);
    x.call(2, 5, 3, 4, 0);
    x.call(2, 5, 3, 0, 0);
    lawfulIs(x, 2, 0, 3, 2, 0, 1, 2);
    x.call(3, 5, 1, 0, 5);
    x.call(3, 5, 3, 1, 0);
    x.call(3, 5, 1, 2, 1);
    x.call(3, 5, 3, 2, 0);
    lawfulIs(x, 3, 0, 3, 0, 2);
    x.down(0, 4, 5);
    lawfulIs(x, 3, 1, 0, 2, 2);
    x.down(0, 4, 6);
    lawfulIs(x, 3, 0, 3, 0, 2);
  }

  private static void deafOnes() {
    Check.promise(14, "deaf ones");
    NoonValley x = Check.of("p 4;l 0 1 1 24;l 2 1 1 24;l 3 1 1 24;d 1;d 0;k 0 0;k 2 0;k 2 1;k 3 1;k 1 2");
    x.plan(0);
    x.call(0, 1, 0, 0, 1);
    Check.same("told once", x.known(0, 1, 1), 4);
    Check.same("the other way once too", x.known(0, 0, 1), 1);
    x.call(0, 2, 1, 2, 1);
    Check.same("the news 0 twice, the news 1 once", x.known(0, 1, 2), 5);
    x.call(0, 24, 2, 1, 3);
    Check.same("the news 1 for the second time, by its own call", x.known(0, 1, 24), 7);
    Check.same("not an hour ahead", x.known(0, 1, 23), 5);
    x.call(0, 3, 4, 1, 0);
    Check.same("0 told twice", x.known(0, 0, 3), 5);
    Check.same("to whom knows it already", x.known(0, 0, 24), 5);
    NoonValley y = Check.of("p 3;l 0 1 1 24;l 1 2 1 24;k 0 0");
    y.plan(0);
    y.call(0, 1, 1, 0, 1);
    y.call(0, 1, 1, 1, 2);
    y.call(0, 2, 1, 1, 2);
    Check.same("not in the hour in which it is told", y.known(0, 2, 1), 0);
    Check.same("in the next one", y.known(0, 2, 2), 1);
    Check.same("the others once", y.known(0, 1, 1), 1);
  }

  private static void knownHours() {
    Check.promise(14, "known");
    NoonValley x = Check.of("p 2;l 0 1 1 24;k 0 0;k 0 3;k 1 1");
    x.plan(0);
    x.call(0, 24, 2, 0, 1);
    x.call(0, 1, 1, 0, 1);
    int[] hours = {0, 1, 23, 24};
    int[] wantOf0 = {9, 9, 9, 11};
    int[] wantOf1 = {2, 11, 11, 11};
    for (int i = 0; i < hours.length; i++) {
      Check.same("0 after " + hours[i], x.known(0, 0, hours[i]), wantOf0[i]);
      Check.same("1 after " + hours[i], x.known(0, 1, hours[i]), wantOf1[i]);
    }
    Check.same("after 25", x.known(0, 0, 25), NONE);
    Check.same("after -1", x.known(0, 0, -1), NONE);
  }

  private static void brokenAndDone() {
    Check.promise(16, "when");
    for (int hour = 0; hour <= 24; hour++) {
      NoonValley x = Check.of("p 2;l 0 1 1 24;k 0 0;s 1 0;w 1 0" + (hour == 0 ? ";k 1 0" : ""));
      x.plan(0);
      if (hour > 0) {
        Check.same("never broken yet", x.when(0, 0), NONE);
        Check.same("never done yet", x.when(0, 1), NONE);
        x.call(0, hour, 4, 0, 1);
        Check.same("kept from it", x.when(0, 0), NONE);
        x.plan(0);
        x.call(1, hour, 1, 0, 1);
      }
      int plan = hour > 0 ? 1 : 0;
      Check.same("broken after " + hour, x.when(plan, 0), hour);
      Check.same("done after " + hour, x.when(plan, 1), hour);
    }
    NoonValley y = Check.of("p 2");
    y.plan(0);
    Check.same("nobody must not know anything", y.when(0, 0), NONE);
    Check.same("nobody must know anything", y.when(0, 1), 0);
    NoonValley z = Check.of("p 3;l 0 1 1 24;l 0 2 1 24;k 0 0;k 0 3;w 1 3;w 2 0;s 2 3");
    z.plan(0);
    z.call(0, 7, 4, 0, 2);
    z.call(0, 9, 1, 0, 1);
    Check.same("all, and all that they must", z.when(0, 1), 9);
    z.call(0, 20, 1, 1, 0);
    Check.same("not broken", z.when(0, 0), NONE);
    z.call(0, 24, 1, 0, 2);
    Check.same("one is enough", z.when(0, 0), 24);
  }

  private static void togetherOnes() {
    Check.promise(15, "together");
    NoonValley x = Check.of("p 7;l 0 6 24 24;k 0 0;k 6 3;k 3 1");
    x.plan(0);
    x.call(0, 24, 1, 0, 6);
    Check.same("the lowest alone", x.together(0, 1, 24), 1);
    Check.same("the highest alone", x.together(0, 64, 23), 8);
    Check.same("an hour later", x.together(0, 64, 24), 9);
    Check.same("those who know nothing", x.together(0, 54, 24), 0);
    Check.same("all", x.together(0, 127, 0), 11);
    Check.same("more than all", x.together(0, 128, 0), NONE);
    Check.same("none", x.together(0, 0, 0), NONE);
    Check.same("hour 25", x.together(0, 1, 25), NONE);
    NoonValley y = Check.of("p 1;k 0 2");
    y.plan(0);
    Check.same("one of one", y.together(0, 1, 0), 4);
    Check.same("a second of one", y.together(0, 2, 0), NONE);
  }

  // ==== 3. One news.

  private static void leastHours() {
    Check.promise(17, "least");
    NoonValley x = Check.of("p 2;l 0 1 24 24;k 0 0;w 1 0;w 0 1;k 0 1;w 1 2");
    for (int hour = 1; hour <= 24; hour++) {
      Check.same("up to hour 24 from " + hour, x.least(0, 0, hour), 25 - hour);
      Check.same("all do", x.least(0, 1, hour), 0);
      Check.same("nobody knows it", x.least(0, 2, hour), NONE);
      Check.same("nobody must", x.least(0, 3, hour), 0);
    }
    NoonValley y = Check.of("p 2;l 0 1 1 23;k 0 0;w 1 0;d 1");
    Check.same("two hours left", y.least(0, 0, 22), 2);
    Check.same("one hour left for one who is deaf", y.least(0, 0, 23), NONE);
    Check.same("none left", y.least(0, 0, 24), NONE);
    Check.same("from hour 1", y.least(0, 0, 1), 2);
    // Seven people, one line each hour: 0 tells 1 in hour 4, 1 tells 2 in hour 8 and so on to 24.
    NoonValley z = Check.of("p 7;l 0 1 4 4;l 1 2 8 8;l 2 3 12 12;l 3 4 16 16;l 4 5 20 20;l 5 6 24 24;k 0 0;w 6 0");
    Check.same("all the day", z.least(0, 0, 1), 24);
    Check.same("from hour 4", z.least(0, 0, 4), 21);
    Check.same("from hour 5", z.least(0, 0, 5), NONE);
    z.down(0, 5, 24);
    Check.same("the last line is down", z.least(0, 0, 1), NONE);
    NoonValley w = Check.of("p 4;o 0 1 1 24;o 1 2 1 24;o 2 3 1 24;s 1 0;k 0 0;k 2 0;w 3 0");
    Check.same("not by one who must not know", w.least(0, 0, 1), 1);
    NoonValley v = Check.of("p 3;l 0 1 1 24;l 1 2 1 24;s 0 0;k 0 0;w 2 0");
    Check.same("nor from one", v.least(0, 0, 1), NONE);
    NoonValley u = Check.of("p 2;l 0 1 1 24;s 1 0;k 0 0;w 1 0");
    Check.same("nor to one", u.least(0, 0, 1), NONE);
  }

  private static void foundRows() {
    Check.promise(18, "found");
    NoonValley x = Check.of("p 2;l 0 1 24 24;k 0 0;w 1 0;w 1 2");
    for (int k = 0; k < 23; k++) {
      Check.same("it waits", x.found(0, 0, 1, k, 0), 7);
      Check.same("1 does not know", x.found(0, 0, 1, k, 1), 7);
    }
    Check.same("the last hour", x.found(0, 0, 1, 23, 0), 1);
    Check.same("1 does not know then", x.found(0, 0, 1, 23, 1), 7);
    Check.same("behind it", x.found(0, 0, 1, 24, 0), NONE);
    Check.same("from the last hour", x.found(0, 0, 24, 0, 0), 1);
    Check.same("behind that", x.found(0, 0, 24, 1, 0), NONE);
    Check.same("all do", x.found(0, 1, 1, 0, 0), NONE);
    Check.same("nobody knows it", x.found(0, 2, 1, 0, 0), NONE);
    NoonValley y = Check.of("p 7;l 0 1 1 24;l 0 6 1 24;l 5 6 1 24;l 5 1 1 24;k 0 0;k 5 0;w 6 0;w 1 0");
    int[] row = {1, 7, 7, 7, 7, 6, 7};
    for (int one = 0; one < 7; one++) {
      Check.same("the lowest row of " + one, y.found(0, 0, 1, 0, one), row[one]);
    }
    Check.same("one 7", y.found(0, 0, 1, 0, 7), NONE);
    NoonValley z = Check.of("p 5;l 0 1 1 24;l 0 2 1 24;l 0 3 1 24;l 4 0 1 24;s 2 0;k 3 0;k 0 0;w 4 0");
    int[] first = {1, 7, 7, 7, 7};
    int[] second = {4, 7, 7, 7, 7};
    Check.same("one hour will do", z.least(0, 0, 1), 1);
    for (int one = 0; one < 5; one++) {
      Check.same("by the one call that will do: " + one, z.found(0, 0, 1, 0, one), second[one]);
    }
    z.down(0, 3, 1);
    Check.same("then it can't be done", z.found(0, 0, 1, 0, 0), NONE);
    NoonValley w = Check.of("p 5;l 0 1 1 24;l 0 2 1 24;l 0 3 1 24;l 4 0 2 24;s 2 0;k 3 0;k 0 0;w 4 0");
    for (int one = 0; one < 5; one++) {
      Check.same("a call without need is lower than none: " + one, w.found(0, 0, 1, 0, one), first[one]);
      Check.same("then the one that will do: " + one, w.found(0, 0, 1, 1, one), second[one]);
    }
  }

  private static void reachEnds() {
    Check.promise(19, "reach");
    NoonValley x = Check.of("p 7;l 0 1 1 24;l 0 2 1 24;l 0 3 1 24;l 0 4 1 24;l 0 5 1 24;l 0 6 1 24;k 0 0;d 6;d 5;"
        + "k 1 1;s 1 1;k 2 2;s 0 2");
    int[] want = {1, 2, 4, 7, 7};
    for (int hour = 1; hour <= 24; hour++) {
      for (int k = 0; k < want.length && hour + k <= 25; k++) {
        Check.same("from " + hour + " after " + k, x.reach(0, 0, hour, k), want[k]);
      }
      Check.same("to the end from " + hour, x.reach(0, 0, hour, 25 - hour), want[Math.min(4, 25 - hour)]);
      Check.same("beyond from " + hour, x.reach(0, 0, hour, 26 - hour), NONE);
    }
    Check.same("one who must not know is not there", x.reach(0, 1, 1, 24), 0);
    Check.same("nor in between", x.reach(0, 2, 1, 24), 1);
    Check.same("nobody knows it", x.reach(0, 3, 1, 24), 0);
    NoonValley y = Check.of("p 4;o 0 1 1 1;o 1 2 2 2;o 2 3 3 3;k 0 0");
    for (int k = 0; k <= 24; k++) {
      Check.same("one step an hour: after " + k, y.reach(0, 0, 1, k), Math.min(4, 1 + k));
      Check.same("too late: after " + k, y.reach(0, 0, 2, Math.min(23, k)), 1);
    }
  }

  private static void fromHere() {
    Check.promise(20, "from");
    NoonValley x = Check.of("p 2;l 0 1 24 24;k 0 0;w 1 0;k 0 1;w 0 1;w 1 2");
    x.plan(0);
    for (int hour = 0; hour <= 23; hour++) {
      Check.same("from the next hour on, after " + hour, x.from(0, 0, hour), 24 - hour);
      Check.same("all do", x.from(0, 1, hour), 0);
      Check.same("it can't be done", x.from(0, 2, hour), NONE);
    }
    Check.same("after 24", x.from(0, 0, 24), NONE);
    Check.same("after 24, though all do", x.from(0, 1, 24), NONE);
    Check.same("after -1", x.from(0, 1, -1), NONE);
    NoonValley y = Check.of("p 2;l 0 1 1 24;k 0 0;w 1 0;d 1");
    y.plan(0);
    y.call(0, 5, 1, 0, 1);
    Check.same("twice", y.from(0, 0, 4), 2);
    Check.same("told once then", y.from(0, 0, 5), 1);
    Check.same("in the last hour", y.from(0, 0, 23), 1);
    y.call(0, 23, 1, 0, 1);
    Check.same("known then", y.from(0, 0, 23), 0);
    Check.same("just told once", y.from(0, 0, 22), 1);
    y.plan(0);
    Check.same("just too late", y.from(1, 0, 23), NONE);
    Check.same("just in time", y.from(1, 0, 22), 2);
  }

  private static void addedIs(NoonValley x, int a, int b, int spares) {
    Check.same("A", x.added(0, 0, 0), a);
    Check.same("B", x.added(0, 0, 1), b);
    Check.same("spares", x.added(0, 0, 2), spares);
  }

  private static void addedLines() {
    Check.promise(21, "added");
    addedIs(Check.of("p 1;k 0 0;w 0 0"), NONE, NONE, NONE);
    addedIs(Check.of("p 2;l 1 0 24 24;k 0 0;w 1 0"), NONE, NONE, NONE);
    addedIs(Check.of("p 2;o 1 0 24 24;k 0 0;w 1 0"), NONE, NONE, NONE);
    addedIs(Check.of("p 2;k 0 0;w 1 0"), 0, 1, 24);
    addedIs(Check.of("p 2;k 0 0;w 1 0;d 1"), 0, 1, 23);
    addedIs(Check.of("p 2;k 1 0;w 1 0"), 0, 1, 0);
    addedIs(Check.of("p 2;k 0 0;w 1 0;s 1 0"), 0, 1, 0);
    addedIs(Check.of("p 3;l 0 1 24 24;k 0 0;w 1 0"), 0, 2, 0);
    // There are twelve lines already.
    StringBuilder text = new StringBuilder("p 7");
    for (int i = 0; i < 12; i++) {
      text.append(";l ").append(i % 4).append(' ').append(i % 4 + 1).append(" 24 24");
    }
    addedIs(Check.of(text + ";k 0 0;w 6 0"), 0, 6, 24);
    addedIs(Check.of(text + ";k 0 0;w 1 0"), 0, 2, 0);
    addedIs(Check.of(text + ";k 0 0;w 2 0"), 0, 2, 24);
    NoonValley x = Check.of("p 4;l 0 1 1 24;l 1 2 1 24;l 2 3 1 24;k 0 0;w 3 0");
    addedIs(x, 0, 3, 2);
    x.down(0, 1, 1);
    addedIs(x, 0, 3, 24);
    NoonValley y = Check.of("p 4;l 0 1 1 24;l 0 3 24 24;l 1 2 1 24;l 2 3 1 24;k 0 0;w 3 0");
    addedIs(y, 0, 2, 1);
  }

  private static void shutIs(NoonValley x, int news, int one, int hour, int want) {
    Check.same("news " + news + " off " + one + " from " + hour, x.shut(0, news, one, hour), want);
  }

  private static void shutOff() {
    Check.promise(22, "shut");
    NoonValley x = Check.of("p 3;l 0 1 4 24;l 1 2 24 24;k 0 0;k 1 1");
    for (int hour = 1; hour <= 24; hour++) {
      shutIs(x, 0, 0, hour, NONE);
      shutIs(x, 0, 1, hour, hour <= 4 ? 1 : NONE);
      shutIs(x, 0, 2, hour, hour <= 4 ? 1 : 2);
      shutIs(x, 2, 2, hour, 0);
    }
    shutIs(x, 1, 2, 24, 2);
    NoonValley y = Check.of("p 2;l 0 1 23 23;k 0 0");
    shutIs(y, 0, 1, 22, 1);
    shutIs(y, 0, 1, 23, 1);
    shutIs(y, 0, 1, 24, NONE);
    StringBuilder text = new StringBuilder("p 2");
    for (int i = 0; i < 12; i++) {
      text.append(i % 2 == 0 ? ";l 1 0 " : ";o 0 1 ").append(i + 1).append(" 24");
    }
    shutIs(Check.of(text + ";k 0 0"), 0, 1, 1, 4095);
    shutIs(Check.of(text + ";k 1 0"), 0, 0, 1, 1365);
    shutIs(Check.of(text + ";k 0 0;d 1"), 0, 1, 2, NONE);
    // One step an hour: from 0 to 3 in hour 3 at best.
    NoonValley z = Check.of("p 4;l 0 1 1 24;l 1 2 1 24;l 2 3 1 24;l 0 3 9 9;k 0 0");
    shutIs(z, 0, 3, 1, 9);
    shutIs(z, 0, 3, 2, 10);
    shutIs(z, 0, 3, 3, 12);
    shutIs(z, 0, 3, 4, NONE);
    // What was open ahead of that hour is gone by for whom it came to since.
    NoonValley v = Check.of("p 3;l 0 1 5 5;l 1 2 3 3;l 1 2 5 6;k 0 0");
    shutIs(v, 0, 2, 1, 1);
    shutIs(v, 0, 2, 5, 1);
    shutIs(v, 0, 2, 6, 4);
    shutIs(v, 0, 2, 7, NONE);
    NoonValley u = Check.of("p 3;l 0 1 5 5;l 1 2 3 3;k 0 0");
    shutIs(u, 0, 2, 1, 0);
    shutIs(u, 0, 2, 6, 0);
    // Of two sets of two: 0 and 3, 1 and 2; and of one each: the lower line.
    NoonValley w = Check.of("p 4;l 0 1 1 1;l 0 2 1 1;l 2 3 2 2;l 1 3 2 2;k 0 0");
    shutIs(w, 0, 3, 1, 3);
    shutIs(w, 0, 3, 2, 12);
    shutIs(w, 0, 3, 3, NONE);
    shutIs(w, 0, 2, 1, 2);
  }

  // ==== 4. Everything to all, cards and trees.

  private static String path(int people, String hours) {
    StringBuilder text = new StringBuilder("p " + people);
    for (int one = 1; one < people; one++) {
      text.append(";l ").append(one - 1).append(' ').append(one).append(' ').append(hours);
    }
    return text.toString();
  }

  private static void fewestCalls() {
    Check.promise(23, "fewest");
    int[] want = {0, 1, 3, 5, 7, NONE, NONE};
    for (int people = 1; people <= 7; people++) {
      NoonValley x = Check.of(path(people, "24 24"));
      int calls = want[people - 1];
      Check.same("of " + people, x.fewest(0), calls);
      Check.promise(24, "gossip");
      Check.same("the last call", x.gossip(0, calls - 1), calls > 0 ? 0 : NONE);
      Check.same("behind it", x.gossip(0, Math.max(0, calls)), NONE);
      Check.same("before it", x.gossip(0, -1), NONE);
      Check.promise(23, "fewest");
    }
    Check.same("two apart", Check.of("p 5;l 0 1 1 24;l 2 3 1 24;l 3 4 1 24;l 4 2 1 24").fewest(0), NONE);
    Check.same("o lines do not count", Check.of("p 3;l 0 1 1 24;o 1 2 1 24;o 2 1 1 24").fewest(0), NONE);
    NoonValley y = Check.of("p 5;o 0 1 1 24;l 0 1 1 1;l 0 1 1 24;l 1 2 1 1;l 3 2 1 1;l 0 3 1 1;l 4 0 2 2;l 4 1 1 1;"
        + "l 4 2 1 1;l 4 3 1 1;l 0 2 1 1;l 1 3 1 1");
    y.down(0, 1, 1);
    Check.same("twelve lines, at all hours", y.fewest(0), 6);
    Check.same("the lowest row begins", y.gossip(0, 0), 1);
    Check.same("behind the row", y.gossip(0, 6), NONE);
  }

  private static void endsOfAny() {
    Check.promise(25, "ends");
    int[] lower = {0, 1, 3, 4, 6, 8, 10};
    int[] upper = {0, 1, 3, 5, 7, 9, 11};
    for (int people = 1; people <= 7; people++) {
      NoonValley x = Check.of(path(people, "1 1"));
      Check.same("lower of " + people, x.ends(0, 0), lower[people - 1]);
      Check.same("upper of " + people, x.ends(0, 1), upper[people - 1]);
      if (people > 1) {
        NoonValley y = Check.of("p " + people + ";l 0 1 1 24".repeat(people - 2) + ";o 0 " + (people - 1) + " 1 24");
        Check.same("not held together: " + people, y.ends(0, 0), NONE);
        Check.same("nor for the upper: " + people, y.ends(0, 1), NONE);
      }
    }
  }

  private static void tradeHours() {
    Check.promise(26, "trade");
    NoonValley x = Check.of("p 2;l 0 1 8 8");
    for (int h = 1; h <= 8; h++) {
      Check.same("calls within " + h, x.trade(0, h, 0), h < 8 ? NONE : 1);
      Check.same("good within " + h, x.trade(0, h, 1), h < 8 ? NONE : 1);
    }
    Check.same("within 0", x.trade(0, 0, 0), NONE);
    Check.same("within 9", x.trade(0, 9, 0), NONE);
    x.down(0, 0, 8);
    Check.same("down in that hour", x.trade(0, 8, 0), NONE);
    x.down(0, 0, 9);
    Check.same("down an hour later", x.trade(0, 8, 0), 1);
    NoonValley one = Check.of("p 1");
    for (int h = 1; h <= 8; h++) {
      Check.same("one alone", one.trade(0, h, 0), 0);
      Check.same("good in the first hour alone", one.trade(0, h, 1), h == 1 ? 1 : 0);
    }
    Check.same("one alone within 0", one.trade(0, 0, 0), NONE);
    Check.same("one alone, good within 0", one.trade(0, 0, 1), NONE);
    Check.same("one alone within 9", one.trade(0, 9, 0), NONE);
    Check.same("four", Check.of(path(4, "1 24")).trade(0, 8, 0), 5);
    Check.same("five", Check.of(path(5, "1 24")).trade(0, 8, 0), NONE);
    Check.same("five, good", Check.of(path(5, "1 24")).trade(0, 8, 1), NONE);
    Check.same("o lines do not count", Check.of("p 2;o 0 1 1 24;o 1 0 1 24").trade(0, 8, 0), NONE);
    // Fewer calls with more hours: 4 by the ring once its last line opens.
    NoonValley z = Check.of("p 4;l 0 1 1 8;l 2 3 1 8;l 1 2 1 8;l 0 3 7 7");
    int[] calls = {NONE, NONE, 5, 5, 5, 5, 4, 4};
    int[] good = {NONE, NONE, 1, 0, 0, 0, 1, 0};
    for (int h = 1; h <= 8; h++) {
      Check.same("a ring within " + h, z.trade(0, h, 0), calls[h - 1]);
      Check.same("a ring, good within " + h, z.trade(0, h, 1), good[h - 1]);
    }
  }

  private static void sixOnCards() {
    Check.promise(27, "card");
    NoonValley x = Check.of("p 7;l 0 1 1 24;l 0 2 1 24;l 0 3 1 24;l 0 4 1 24;l 0 5 1 24;l 0 6 1 24");
    for (int other = 1; other <= 6; other++) {
      Check.same("not all know", x.kept(0, 0), NONE);
      Check.same("one more", x.card(0, 0, other), other);
    }
    Check.same("all know, the sixth in hour 6", x.kept(0, 0), 6);
    Check.same("a seventh", x.card(0, 0, 1), NONE);
    Check.same("changes nothing", x.kept(0, 0), 6);
    Check.same("another card", x.card(0, 6, 0), 1);
    Check.promise(28, "blank");
    Check.yes("blank", x.blank(0));
    Check.same("nothing on it", x.kept(0, 0), NONE);
    for (int i = 1; i <= 6; i++) {
      Check.same("six again, alike ones too", x.card(0, 0, 6), i);
    }
    Check.same("there are six", x.card(0, 0, 6), NONE);
    Check.same("the other card is empty too", x.card(0, 6, 0), 1);
  }

  private static NoonValley withCards(String text, int... couples) {
    NoonValley x = Check.of(text);
    for (int i = 0; i + 1 < couples.length; i += 2) {
      x.card(0, couples[i], couples[i + 1]);
    }
    return x;
  }

  private static void keptHours() {
    Check.promise(29, "kept");
    Check.same("hour 0", withCards("p 1").kept(0, 0), 0);
    Check.same("hour 0, deaf", withCards("p 1;d 0").kept(0, 0), 0);
    for (int hour = 1; hour <= 24; hour++) {
      NoonValley x = withCards("p 2;l 0 1 " + hour + " 24", 0, 1);
      Check.same("in hour " + hour, x.kept(0, 0), hour);
      x.down(0, 0, hour);
      Check.same("down then", x.kept(0, 0), NONE);
    }
    Check.same("deaf, in the last two hours", withCards("p 2;l 0 1 23 24;d 1", 0, 1, 0, 1).kept(0, 0), 24);
    Check.same("deaf, in the last hour", withCards("p 2;l 0 1 24 24;d 1", 0, 1, 0, 1).kept(0, 0), NONE);
    Check.same("deaf, told once", withCards("p 2;l 0 1 1 24;d 1", 0, 1).kept(0, 0), NONE);
    Check.same("from the next hour on", withCards("p 3;l 0 1 1 24;l 1 2 1 1", 0, 1, 1, 2).kept(0, 0), NONE);
    Check.same("the next hour", withCards("p 3;l 0 1 1 24;l 1 2 1 2", 0, 1, 1, 2).kept(0, 0), 2);
    // It waits for the first on its card, though it might call the second.
    Check.same("in that order", withCards("p 3;l 0 1 24 24;l 0 2 1 24", 0, 1, 0, 2).kept(0, 0), NONE);
    Check.same("in that order, in time", withCards("p 3;l 0 1 23 24;l 0 2 1 24", 0, 1, 0, 2).kept(0, 0), 24);
    // 1 and 2 know after hours 1 and 2; 0 and 1 would both call 3 in hour 3: 0 does, 1 waits.
    String all = "p 5;l 0 1 1 24;l 0 2 1 24;l 0 3 1 24;l 1 3 3 24;l 1 4 4 4";
    Check.same("not called in this hour", withCards(all, 0, 1, 0, 2, 0, 3, 1, 3, 1, 4).kept(0, 0), NONE);
    Check.same("an hour more", withCards(all.replace("4 4 4", "4 4 5"), 0, 1, 0, 2, 0, 3, 1, 3, 1, 4).kept(0, 0), 5);
    Check.same("to whom knows already it calls too", withCards("p 3;l 0 1 1 24;l 1 2 1 24", 0, 1, 1, 0, 1, 2)
        .kept(0, 0), 3);
    Check.same("those who must not know too", withCards("p 2;l 0 1 1 24;s 1 0;s 0 0", 0, 1).kept(0, 0), 1);
  }

  private static void treeLines() {
    Check.promise(30, "tree");
    for (int people = 1; people <= 7; people++) {
      NoonValley x = Check.of(path(people, "24 24"));
      for (int first = 0; first < people; first++) {
        int time = first == 0 || first == people - 1 ? people - 1
            : first == people - 1 - first ? first + 1 : Math.max(first, people - 1 - first);
        Check.same("a path of " + people + " from " + first, x.tree(0, first, first, NONE), time);
      }
      Check.same("a leaf", x.tree(0, 0, people - 1, NONE), 0);
      Check.same("nobody on its card", x.tree(0, 0, people - 1, 0), NONE);
      Check.same("the first on the card", x.tree(0, 0, 0, 0), people > 1 ? 1 : NONE);
      Check.same("i -2", x.tree(0, 0, 0, -2), NONE);
    }
    Check.same("as many as people", Check.of("p 3;l 0 1 1 1;l 1 2 1 1;l 2 0 1 1").tree(0, 0, 0, NONE), NONE);
    Check.same("one line twice", Check.of("p 3;l 0 1 1 1;l 1 2 1 1;l 2 1 1 1").tree(0, 0, 0, NONE), NONE);
    Check.same("one too few", Check.of("p 3;l 0 1 1 1;o 1 2 1 1").tree(0, 0, 0, NONE), NONE);
    Check.same("not together", Check.of("p 3;l 0 1 1 1;l 1 0 1 1").tree(0, 0, 0, NONE), NONE);
    NoonValley y = Check.of("p 7;l 0 6 1 1;l 0 5 1 1;l 0 4 1 1;l 0 3 1 1;l 0 2 1 1;l 0 1 1 1;o 1 2 1 24");
    Check.same("six places", y.tree(0, 0, 0, NONE), 6);
    for (int i = 0; i < 6; i++) {
      Check.same("of alike ones the lower number", y.tree(0, 0, 0, i), i + 1);
    }
    Check.same("a seventh", y.tree(0, 0, 0, 6), NONE);
    y.down(0, 0, 1);
    Check.same("at all hours", y.tree(0, 3, 3, NONE), 6);
  }

  // ==== 5. Loss, chance and tales.

  private static void breaksIs(NoonValley x, int plan, int... want) {
    Check.same("how many of plan " + plan, x.breaks(plan, NONE), want.length);
    for (int i = 0; i < want.length; i++) {
      Check.same("the " + i + " of plan " + plan, x.breaks(plan, i), want[i]);
    }
    Check.same("behind, of plan " + plan, x.breaks(plan, want.length), NONE);
    Check.same("before, of plan " + plan, x.breaks(plan, -2), NONE);
  }

  private static void brokenByCalls() {
    Check.promise(31, "breaks");
    NoonValley x = Check.of("p 2;l 0 1 1 24;k 0 0;w 1 0");
    for (int plan = 0; plan <= 4; plan++) {
      x.plan(0);
      for (int call = 0; call < plan; call++) {
        x.call(plan, 24 - call, 1, 0, 1);
      }
    }
    breaksIs(x, 0);
    breaksIs(x, 1, 0);
    breaksIs(x, 2, 0, 1);
    breaksIs(x, 3, 0, 1, 2);
    Check.same("four are too many", x.breaks(4, NONE), NONE);
    Check.same("no first", x.breaks(4, 0), NONE);
    Check.same("no fourth", x.breaks(4, 3), NONE);
    x.down(0, 0, 24);
    breaksIs(x, 1);
    breaksIs(x, 2, 1);
    breaksIs(x, 4, 1, 2, 3);
    NoonValley y = Check.of("p 2;l 0 1 1 24");
    y.plan(0);
    Check.same("nobody must know anything", y.breaks(0, NONE), NONE);
    // Told thrice to one who is deaf: two of the three calls must be lost.
    NoonValley z = Check.of("p 2;l 0 1 1 24;k 0 0;w 1 0;d 1");
    z.plan(0);
    for (int call = 0; call < 3; call++) {
      z.call(0, call + 1, 1, 0, 1);
    }
    breaksIs(z, 0, 0, 1);
    // Lawful as with all of them: with call 0 lost, call 1 stays unlawful.
    NoonValley w = Check.of("p 3;l 0 1 1 24;l 0 2 1 24;k 0 0;w 1 0");
    w.plan(0);
    w.call(0, 1, 1, 0, 1);
    w.call(0, 1, 1, 0, 1);
    breaksIs(w, 0, 0);
  }

  /** Forty calls, of which the first that do not count fill up the low numbers. */
  private static void brokenByHighCalls() {
    Check.promise(31, "breaks");
    for (int useful = 1; useful <= 4; useful++) {
      NoonValley x = Check.of("p 3;l 0 1 1 24;l 1 2 1 24;k 0 0;w 1 0");
      x.plan(0);
      for (int call = 0; call < 40 - useful; call++) {
        x.call(0, 1 + call % 20, 1, 2, 1);
      }
      for (int call = 40 - useful; call < 40; call++) {
        x.call(0, call - 15, 1, 0, 1);
      }
      Check.same("calls", x.count(2), 40);
      int[] want = new int[useful];
      for (int i = 0; i < useful; i++) {
        want[i] = 40 - useful + i;
      }
      if (useful <= 3) {
        breaksIs(x, 0, want);
      } else {
        Check.same("four", x.breaks(0, NONE), NONE);
      }
    }
  }

  private static void brokenByOne() {
    Check.promise(32, "breaker");
    NoonValley x = Check.of("p 3;l 0 1 1 24;l 0 2 1 24;l 1 2 1 24;k 0 0;k 1 0;w 2 0");
    x.plan(0);
    Check.same("none at all", x.breaker(0), 0);
    x.call(0, 24, 1, 0, 2);
    Check.same("0 alone", x.breaker(0), 0);
    x.call(0, 23, 3, 1, 0);
    Check.same("it need not know: 2", x.breaker(0), NONE);
    x.down(0, 1, 24);
    Check.same("1 alone", x.breaker(0), 1);
    // A shout to others is carried without one whom it would reach, from one it is not.
    NoonValley y = Check.of("p 3;l 1 0 1 24;l 1 2 1 24;k 1 0;w 2 0");
    y.plan(0);
    y.call(0, 1, 3, 1, 0);
    Check.same("without the caller", y.breaker(0), 1);
    NoonValley z = Check.of("p 3;l 0 1 1 24;l 1 2 1 24;k 0 0;w 2 0;k 2 1;w 0 1");
    z.plan(0);
    z.call(0, 1, 1, 0, 1);
    z.call(0, 2, 0, 2, 1);
    Check.same("0 lost, so 2 can't know", z.breaker(0), 0);
    NoonValley last = Check.of("p 7;l 0 6 1 24;l 6 1 1 24;k 0 0;k 6 0;w 1 0;k 5 1;w 5 1");
    last.plan(0);
    last.call(0, 1, 2, 1, 6);
    Check.same("the highest", last.breaker(0), 6);
  }

  private static void waysOfAll() {
    Check.promise(33, "ways");
    NoonValley x = new NoonValley();
    for (int people = 2; people <= 4; people++) {
      long all = 1;
      for (int h = 1; h <= 8; h++) {
        for (int one = 0; one < people; one++) {
          all *= people - 1;
        }
        long sum = 0;
        for (int k = 1; k <= people; k++) {
          sum += x.ways(people, h, k);
        }
        Check.same("all choices of " + people + " in " + h, sum, all);
        Check.same("one knows and must call", x.ways(people, h, 1), 0);
        Check.same("k 0", x.ways(people, h, 0), -1);
        Check.same("k too many", x.ways(people, h, people + 1), -1);
      }
      Check.same("h 0", x.ways(people, 0, 1), -1);
      Check.same("h 9", x.ways(people, 9, 1), -1);
    }
    Check.same("two", x.ways(2, 8, 2), 1);
    Check.same("PEOPLE 1", x.ways(1, 1, 1), -1);
    Check.same("PEOPLE 5", x.ways(5, 1, 1), -1);
  }

  private static int drawnByHand(int people, int first, long seed) {
    java.math.BigInteger x = java.math.BigInteger.valueOf(seed);
    java.math.BigInteger factor = new java.math.BigInteger("6364136223846793005");
    java.math.BigInteger summand = new java.math.BigInteger("1442695040888963407");
    boolean[] knows = new boolean[people];
    knows[first] = true;
    for (int hour = 1; hour <= 60; hour++) {
      boolean[] later = knows.clone();
      boolean all = true;
      for (int one = 0; one < people; one++) {
        x = x.multiply(factor).add(summand).mod(java.math.BigInteger.ONE.shiftLeft(64));
        int place = x.shiftRight(33).mod(java.math.BigInteger.valueOf(people - 1)).intValue();
        int other = place < one ? place : place + 1;
        later[other] |= knows[one];
      }
      knows = later;
      for (boolean know : knows) {
        all &= know;
      }
      if (all) {
        return hour;
      }
    }
    return NONE;
  }

  private static void drawnRound() {
    Check.promise(34, "drawn");
    long[] seeds = {0, 1, -1, Long.MAX_VALUE, Long.MIN_VALUE, Long.MAX_VALUE - 1, Long.MIN_VALUE + 1, 1L << 33,
        (1L << 33) - 1, 1L << 63 >>> 1, -(1L << 33), 0xFFFFFFFFL, 6364136223846793005L, -1442695040888963407L};
    for (long seed : seeds) {
      NoonValley x = new NoonValley();
      for (int people = 2; people <= 7; people++) {
        for (int first = 0; first < people; first++) {
          Check.same(people + " from " + first + " by " + seed, x.drawn(people, first, seed),
              drawnByHand(people, first, seed));
        }
        Check.same("first -1", x.drawn(people, -1, seed), NONE);
        Check.same("first too high", x.drawn(people, people, seed), NONE);
      }
      Check.same("one", x.drawn(1, 0, seed), NONE);
      Check.same("eight", x.drawn(8, 0, seed), NONE);
    }
  }

  /** The seeds that took the most hours of forty million: 21 is far from 60 still. */
  private static void drawnLong() {
    Check.promise(34, "drawn");
    long[] seeds = {6794458803092294770L, -6733553985388087483L, 6443612741938314136L, 3831961818464148670L,
        8896408276942937286L};
    int[] hours = {14, 18, 17, 20, 21};
    NoonValley x = new NoonValley();
    for (int people = 3; people <= 7; people++) {
      Check.same("by hand", drawnByHand(people, 0, seeds[people - 3]), hours[people - 3]);
      Check.same(people + " people", x.drawn(people, 0, seeds[people - 3]), hours[people - 3]);
    }
  }

  private static void taleHours() {
    Check.promise(35, "tale");
    NoonValley x = Check.of("p 2;l 0 1 1 24;k 0 0");
    x.plan(0);
    for (int hour = 1; hour <= 24; hour++) {
      Check.yes("hour " + hour, x.tale(0, 0, 1, hour));
      Check.same("by 0", x.who(0, 0), 1);
      Check.same("false", x.fits(0, 0), 1);
      Check.no("hour 25", x.tale(0, 0, 1, 25));
      Check.no("hour -2", x.tale(0, 0, 1, -2));
      Check.same("the tale stands", x.who(0, 0), 1);
    }
    Check.yes("hour 0", x.tale(0, 0, 1, 0));
    Check.same("1 itself", x.who(0, 0), 2);
    Check.yes("not told", x.tale(0, 0, 1, NONE));
    Check.same("either", x.who(0, 0), 3);
    Check.same("nothing to be false", x.fits(0, 0), NONE);
    Check.yes("not told again", x.tale(0, 0, 1, NONE));
    Check.same("either", x.who(0, 0), 3);
    Check.yes("of another news", x.tale(0, 3, 0, 24));
    Check.same("1 alone", x.who(0, 3), 2);
    Check.same("is another's", x.who(0, 0), 3);
  }

  private static void begun() {
    Check.promise(36, "who");
    NoonValley x = Check.of("p 3;l 0 1 24 24;l 1 2 1 23;s 2 1;d 0");
    Check.same("no tale", x.who(0, 0), 7);
    x.tale(0, 0, 1, 24);
    Check.same("by 0, in the last hour", x.who(0, 0), 1);
    x.tale(0, 0, 1, 23);
    Check.same("by 2, an hour ahead", x.who(0, 0), 4);
    x.tale(0, 0, 0, 24);
    Check.same("0 is deaf and told once", x.who(0, 0), 0);
    x.tale(0, 0, 0, NONE);
    x.tale(0, 0, 2, 0);
    Check.same("known at first", x.who(0, 0), 4);
    x.tale(0, 0, 2, 23);
    Check.same("in the same hour each from the other", x.who(0, 0), 0);
    x.tale(0, 0, 1, 0);
    Check.same("1 at first, 2 in hour 23", x.who(0, 0), 2);
    x.tale(0, 0, 2, 24);
    Check.same("2 in hour 24", x.who(0, 0), 0);
    x.tale(0, 1, 1, 5);
    Check.same("2 must not take part", x.who(0, 1), 0);
    x.tale(0, 1, 1, NONE);
    x.tale(0, 1, 2, 5);
    Check.same("nor be told", x.who(0, 1), 0);
    x.tale(0, 1, 2, 0);
    Check.same("but it may have known", x.who(0, 1), 4);
    NoonValley alone = Check.of("p 1");
    Check.same("one alone", alone.who(0, 3), 1);
    alone.tale(0, 3, 0, 0);
    Check.same("at first", alone.who(0, 3), 1);
    alone.tale(0, 3, 0, 1);
    Check.same("not at first", alone.who(0, 3), 0);
  }

  private static void fitting() {
    Check.promise(37, "fits");
    NoonValley x = Check.of("p 7;l 0 6 1 24;k 0 0;d 6");
    x.plan(0);
    x.call(0, 23, 1, 0, 6);
    x.call(0, 24, 1, 0, 6);
    x.tale(0, 0, 6, 24);
    Check.same("told twice in hour 24", x.fits(0, 0), NONE);
    x.tale(0, 0, 6, 23);
    Check.same("not in hour 23", x.fits(0, 0), 6);
    x.tale(0, 0, 5, 24);
    Check.same("never", x.fits(0, 0), 5);
    x.tale(0, 0, 0, 0);
    Check.same("at first", x.fits(0, 0), 5);
    x.tale(0, 0, 0, 1);
    Check.same("the lowest", x.fits(0, 0), 0);
    Check.same("another news", x.fits(0, 1), NONE);
    x.tale(0, 1, 3, 0);
    Check.same("not known at first", x.fits(0, 1), 3);
  }

  private static void counting() {
    Check.promise(38, "count");
    NoonValley x = new NoonValley();
    Check.feed(x, "p 2;");
    int[][] want = {{0, 0, 0, 4}, {1, 0, 0, 0}, {1, 1, 0, 0}, {1, 1, 1, 0}, {1, 1, 1, 3}};
    for (int step = 0; step < want.length; step++) {
      switch (step) {
        case 1:
          x.end(3);
          x.valley();
          break;
        case 2:
          x.plan(0);
          x.plan(1);
          break;
        case 3:
          x.call(0, 1, 3, 0, 0);
          x.call(0, 0, 3, 0, 0);
          break;
        case 4:
          Check.feed(x, "p 9");
          x.valley();
          x.end(4);
          break;
        default:
          x.valley();
          break;
      }
      for (int what = 0; what < 4; what++) {
        Check.same("step " + step + " what " + what, x.count(what), want[step][what]);
      }
    }
    Check.same("what -1", x.count(-1), NONE);
    Check.same("what 4", x.count(4), NONE);
  }
}
