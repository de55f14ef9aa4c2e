import java.util.ArrayList;
import java.util.Arrays;
import java.util.HashMap;
import java.util.HashSet;
import java.util.List;
import java.util.Map;
import java.util.Random;
import java.util.Set;

/** Compares answers on many small valleys with slow and plain searches that share nothing with the class. */
public final class OracleTest {
  private static final int NONE = NoonValley.NONE;
  private static final int NEVER = 99;

  /** A valley as drawn, with all that is told for it by hand. */
  private static final class Model {
    int people;
    final List<int[]> lines = new ArrayList<>();
    boolean[] deaf;
    final boolean[][][] facts = new boolean[3][4][];
    final int[][] tales = new int[4][];
    final List<List<Integer>> cards = new ArrayList<>();
    final List<int[]> calls = new ArrayList<>();

    String text() {
      StringBuilder text = new StringBuilder("p " + people);
      for (int[] l : lines) {
        text.append(l[4] == 1 ? ";o " : ";l ").append(l[0]).append(' ').append(l[1]).append(' ')
            .append(l[2]).append(' ').append(l[3]);
      }
      for (int one = 0; one < people; one++) {
        if (deaf[one]) {
          text.append(";d ").append(one);
        }
        for (int news = 0; news < 4; news++) {
          for (int fact = 0; fact < 3; fact++) {
            if (facts[fact][news][one]) {
              text.append(';').append("kws".charAt(fact)).append(' ').append(one).append(' ').append(news);
            }
          }
        }
      }
      return text.toString();
    }

    boolean works(int[] l, int hour) {
      return l[2] <= hour && hour <= l[3] && (l[5] == NONE || hour < l[5]);
    }

    boolean may(int one, int other, int hour) {
      for (int[] l : lines) {
        boolean there = l[0] == one && l[1] == other;
        boolean back = l[0] == other && l[1] == one && l[4] == 0;
        if ((there || back) && works(l, hour)) {
          return true;
        }
      }
      return false;
    }

    boolean barred(int news, int one) {
      return facts[2][news][one];
    }

    int[] firstLevels(int news) {
      int[] levels = new int[people];
      for (int one = 0; one < people; one++) {
        levels[one] = facts[0][news][one] ? 2 : 0;
      }
      return levels;
    }

    boolean done(int news, int[] levels) {
      for (int one = 0; one < people; one++) {
        if (facts[1][news][one] && levels[one] < 2) {
          return false;
        }
      }
      return true;
    }
  }

  public static void main(String[] args) {
    Random random = new Random(20261118);
    for (int i = 0; i < 700; i++) {
      Model m = draw(random, 2 + random.nextInt(3));
      NoonValley x = object(m);
      spreading(m, x, random, i);
      tales(m, x, i);
      shutting(m, x, i);
      gossip(m, x, i);
      keeping(m, x, i);
    }
    for (int i = 0; i < 60; i++) {
      Model m = draw(random, 5);
      NoonValley x = object(m);
      spreading(m, x, random, 10000 + i);
      gossip(m, x, 10000 + i);
    }
    for (int i = 0; i < 400; i++) {
      Model m = draw(random, 2 + random.nextInt(6));
      NoonValley x = object(m);
      plans(m, x, random, i);
      keeping(m, x, i);
      trees(m, x, i);
    }
    ways();
    texts(random);
    Check.finish();
  }

  private static Model draw(Random random, int people) {
    Model m = new Model();
    m.people = people;
    m.deaf = new boolean[people];
    boolean always = random.nextInt(3) == 0;
    boolean late = random.nextInt(2) == 0;
    int number = random.nextInt(random.nextInt(4) == 0 ? 13 : people + 3);
    for (int i = 0; i < number; i++) {
      int a = random.nextInt(people);
      int b = (a + 1 + random.nextInt(people - 1)) % people;
      int from = always ? 1 : 1 + (late ? random.nextInt(24) : random.nextInt(4));
      int to = always ? 24 : Math.min(24, from + random.nextInt(late ? 25 : 6));
      int down = random.nextInt(6) == 0 ? 1 + random.nextInt(late ? 24 : 8) : NONE;
      m.lines.add(new int[] {a, b, from, to, random.nextInt(4) == 0 ? 1 : 0, down});
    }
    for (int one = 0; one < people; one++) {
      m.deaf[one] = random.nextInt(4) == 0;
      m.cards.add(new ArrayList<>());
      for (int j = random.nextInt(7); j > 0; j--) {
        m.cards.get(one).add((one + 1 + random.nextInt(people - 1)) % people);
      }
    }
    for (int news = 0; news < 4; news++) {
      m.tales[news] = new int[people];
      for (int fact = 0; fact < 3; fact++) {
        m.facts[fact][news] = new boolean[people];
        for (int one = 0; one < people; one++) {
          boolean half = random.nextInt(2) == 0;
          m.facts[fact][news][one] = fact == 0 ? half && random.nextInt(2) == 0
              : fact == 1 ? half || news == 0 : half && random.nextInt(4) == 0;
        }
      }
      for (int one = 0; one < people; one++) {
        m.tales[news][one] = random.nextInt(3) == 0 ? random.nextInt(late ? 25 : 6) : NONE;
      }
    }
    return m;
  }

  private static NoonValley object(Model m) {
    NoonValley x = new NoonValley();
    Check.promise(5, "valley");
    Check.same(m.text(), Check.read(x, m.text()), m.text().length() > 400 ? NONE : 0);
    Check.promise(8, "down");
    for (int i = 0; i < m.lines.size(); i++) {
      Check.yes("down", x.down(0, i, m.lines.get(i)[5]));
    }
    for (int one = 0; one < m.people; one++) {
      for (int i = 0; i < m.cards.get(one).size(); i++) {
        x.card(0, one, m.cards.get(one).get(i));
      }
      for (int news = 0; news < 4; news++) {
        x.tale(0, news, one, m.tales[news][one]);
      }
    }
    return x;
  }

  // Spreading: every set of calls in which each takes part in one is tried.

  private static void callSets(Model m, int news, int hour, int one, boolean[] busy, List<int[]> set,
      List<List<int[]>> all) {
    if (one == m.people) {
      all.add(new ArrayList<>(set));
      return;
    }
    callSets(m, news, hour, one + 1, busy, set, all);
    if (busy[one] || m.barred(news, one)) {
      return;
    }
    for (int other = 0; other < m.people; other++) {
      if (other == one || busy[other] || m.barred(news, other) || !m.may(one, other, hour)) {
        continue;
      }
      busy[one] = true;
      busy[other] = true;
      set.add(new int[] {one, other});
      callSets(m, news, hour, one + 1, busy, set, all);
      set.remove(set.size() - 1);
      busy[one] = false;
      busy[other] = false;
    }
  }

  private static List<List<int[]>> callSets(Model m, int news, int hour) {
    List<List<int[]>> all = new ArrayList<>();
    callSets(m, news, hour, 0, new boolean[m.people], new ArrayList<>(), all);
    return all;
  }

  private static int[] after(Model m, int[] levels, List<int[]> calls) {
    int[] later = levels.clone();
    for (int[] call : calls) {
      if (levels[call[0]] == 2) {
        later[call[1]] = m.deaf[call[1]] ? Math.min(2, levels[call[1]] + 1) : 2;
      }
    }
    return later;
  }

  private static int least(Model m, int news, int[] levels, int hour) {
    Map<String, int[]> states = new HashMap<>();
    states.put(Arrays.toString(levels), levels);
    for (int h = hour; ; h++) {
      for (int[] state : states.values()) {
        if (m.done(news, state)) {
          return h - hour;
        }
      }
      if (h > 24) {
        return NEVER;
      }
      Map<String, int[]> next = new HashMap<>();
      List<List<int[]>> sets = callSets(m, news, h);
      for (int[] state : states.values()) {
        for (List<int[]> set : sets) {
          int[] later = after(m, state, set);
          next.put(Arrays.toString(later), later);
        }
      }
      states = next;
    }
  }

  private static int shown(int hours) {
    return hours == NEVER ? NONE : hours;
  }

  private static void spreading(Model m, NoonValley x, Random random, int i) {
    for (int news = 0; news < (i % 10 == 0 ? 4 : 1); news++) {
      int hour = random.nextInt(3) > 0 ? 1 + random.nextInt(3) : 1 + random.nextInt(24);
      int hours = least(m, news, m.firstLevels(news), hour);
      Check.promise(17, "least");
      Check.same("valley " + i + " " + m.text(), x.least(0, news, hour), shown(hours));
      found(m, x, news, hour, hours, i);
      reach(m, x, news, hour, i);
      added(m, x, news, i);
    }
  }

  private static void rows(Model m, int news, int hour, int[] levels, int[] row, int one, List<int[]> all) {
    if (one == m.people) {
      all.add(row.clone());
      return;
    }
    if (levels[one] == 2 && !m.barred(news, one)) {
      for (int other = 0; other < m.people; other++) {
        boolean free = levels[other] < 2 && !m.barred(news, other) && m.may(one, other, hour);
        for (int before = 0; before < one; before++) {
          free &= row[before] != other;
        }
        if (free) {
          row[one] = other;
          rows(m, news, hour, levels, row, one + 1, all);
        }
      }
    }
    row[one] = 7;
    rows(m, news, hour, levels, row, one + 1, all);
  }

  private static void found(Model m, NoonValley x, int news, int hour, int hours, int i) {
    Check.promise(18, "found");
    int[] levels = m.firstLevels(news);
    int rows = hours == NEVER ? 0 : hours;
    for (int k = 0; k < rows; k++) {
      List<int[]> all = new ArrayList<>();
      rows(m, news, hour + k, levels, new int[m.people], 0, all);
      for (int[] row : all) {
        List<int[]> calls = new ArrayList<>();
        for (int one = 0; one < m.people; one++) {
          if (row[one] != 7) {
            calls.add(new int[] {one, row[one]});
          }
        }
        int[] later = after(m, levels, calls);
        if (least(m, news, later, hour + k + 1) == rows - k - 1) {
          for (int one = 0; one < m.people; one++) {
            Check.same("valley " + i + " row " + k + " of " + one, x.found(0, news, hour, k, one), row[one]);
          }
          levels = later;
          break;
        }
      }
    }
    Check.same("valley " + i + " behind", x.found(0, news, hour, rows, 0), NONE);
  }

  private static void reach(Model m, NoonValley x, int news, int hour, int i) {
    Check.promise(19, "reach");
    Set<Integer> come = new HashSet<>();
    for (int one = 0; one < m.people; one++) {
      if (m.facts[0][news][one] && !m.barred(news, one)) {
        come.add(one);
      }
    }
    int most = come.size();
    for (int k = 0; hour + k <= 25; k++) {
      Check.same("valley " + i + " after " + k, x.reach(0, news, hour, k), most);
      Set<Integer> more = new HashSet<>(come);
      for (int one : come) {
        for (int other = 0; other < m.people; other++) {
          if (!m.barred(news, other) && m.may(one, other, hour + k)) {
            more.add(other);
          }
        }
      }
      come = more;
      most = Math.min(most * 2, come.size());
    }
  }

  private static void added(Model m, NoonValley x, int news, int i) {
    Check.promise(21, "added");
    int plain = Math.min(25, least(m, news, m.firstLevels(news), 1));
    int best = 26;
    int[] couple = {NONE, NONE};
    for (int a = 0; a < m.people; a++) {
      for (int b = a + 1; b < m.people; b++) {
        boolean joined = false;
        for (int[] l : m.lines) {
          joined |= Math.min(l[0], l[1]) == a && Math.max(l[0], l[1]) == b;
        }
        if (joined) {
          continue;
        }
        m.lines.add(new int[] {a, b, 1, 24, 0, NONE});
        int hours = Math.min(25, least(m, news, m.firstLevels(news), 1));
        m.lines.remove(m.lines.size() - 1);
        if (hours < best) {
          best = hours;
          couple = new int[] {a, b};
        }
      }
    }
    Check.same("valley " + i + " A", x.added(0, news, 0), couple[0]);
    Check.same("valley " + i + " B", x.added(0, news, 1), couple[1]);
    Check.same("valley " + i + " spares", x.added(0, news, 2), best == 26 ? NONE : plain - best);
  }

  private static void tales(Model m, NoonValley x, int i) {
    Check.promise(36, "who");
    for (int news = 0; news < 4; news++) {
      int want = 0;
      for (int first = 0; first < m.people; first++) {
        int[] levels = new int[m.people];
        levels[first] = 2;
        if (comesOut(m, news, levels)) {
          want |= 1 << first;
        }
      }
      Check.same("valley " + i + " news " + news, x.who(0, news), want);
    }
  }

  private static boolean asTold(Model m, int news, int[] levels, int hour) {
    for (int one = 0; one < m.people; one++) {
      int tale = m.tales[news][one];
      if (tale != NONE && (levels[one] == 2) != (tale <= hour)) {
        return false;
      }
    }
    return true;
  }

  private static boolean comesOut(Model m, int news, int[] levels) {
    Map<String, int[]> states = new HashMap<>();
    if (asTold(m, news, levels, 0)) {
      states.put("", levels);
    }
    for (int hour = 1; hour <= 24 && !states.isEmpty(); hour++) {
      Map<String, int[]> next = new HashMap<>();
      List<List<int[]>> sets = callSets(m, news, hour);
      for (int[] state : states.values()) {
        for (List<int[]> set : sets) {
          int[] later = after(m, state, set);
          if (asTold(m, news, later, hour)) {
            next.put(Arrays.toString(later), later);
          }
        }
      }
      states = next;
    }
    return !states.isEmpty();
  }

  private static boolean comesTo(Model m, int news, int one, int hour, int down) {
    boolean[] come = m.facts[0][news].clone();
    for (int h = 1; h <= 24; h++) {
      boolean[] more = come.clone();
      for (int i = 0; i < m.lines.size(); i++) {
        int[] l = m.lines.get(i);
        if (h < l[2] || h > l[3] || h >= hour && (down >> i & 1) == 1) {
          continue;
        }
        more[l[1]] |= come[l[0]];
        more[l[0]] |= l[4] == 0 && come[l[1]];
      }
      come = more;
    }
    return come[one];
  }

  /** Whether the first set differs first by a lower line. */
  private static boolean isLower(int set, int other) {
    int differ = set ^ other;
    return (set & Integer.lowestOneBit(differ)) != 0;
  }

  private static void shutting(Model m, NoonValley x, int i) {
    Check.promise(22, "shut");
    if (m.lines.size() > 9) {
      return;
    }
    for (int one = 0; one < m.people; one++) {
      shutting(m, x, i, one, 1 + i % 7 * (i % 3));
      shutting(m, x, i, one, 1 + (i * 5 + one * 7) % 24);
    }
  }

  private static void shutting(Model m, NoonValley x, int i, int one, int hour) {
    int best = NONE;
    for (int set = 0; set < 1 << m.lines.size(); set++) {
      boolean fewer = best == NONE || Integer.bitCount(set) < Integer.bitCount(best);
      boolean lower = best != NONE && Integer.bitCount(set) == Integer.bitCount(best) && isLower(set, best);
      if ((fewer || lower) && !comesTo(m, 0, one, hour, set)) {
        best = set;
      }
    }
    Check.same("valley " + i + " " + m.text() + " to " + one + " from " + hour, x.shut(0, 0, one, hour), best);
  }

  // Everything to all.

  private static boolean allKnow(int[] knows) {
    for (int one : knows) {
      if (one != (1 << knows.length) - 1) {
        return false;
      }
    }
    return true;
  }

  private static boolean row(Model m, int[] knows, int left, List<Integer> row, Set<String> failed) {
    if (left == 0) {
      return allKnow(knows);
    }
    if (failed.contains(left + Arrays.toString(knows))) {
      return false;
    }
    for (int i = 0; i < m.lines.size(); i++) {
      int[] l = m.lines.get(i);
      if (l[4] == 1) {
        continue;
      }
      int[] later = knows.clone();
      later[l[0]] = knows[l[0]] | knows[l[1]];
      later[l[1]] = later[l[0]];
      row.add(i);
      if (row(m, later, left - 1, row, failed)) {
        return true;
      }
      row.remove(row.size() - 1);
    }
    failed.add(left + Arrays.toString(knows));
    return false;
  }

  private static int[] own(Model m) {
    int[] knows = new int[m.people];
    for (int one = 0; one < m.people; one++) {
      knows[one] = 1 << one;
    }
    return knows;
  }

  private static void gossip(Model m, NoonValley x, int i) {
    int calls = NONE;
    List<Integer> row = new ArrayList<>();
    Set<String> failed = new HashSet<>();
    for (int length = 0; length <= 8 && calls == NONE; length++) {
      if (row(m, own(m), length, row, failed)) {
        calls = length;
      }
    }
    Check.promise(23, "fewest");
    Check.same("valley " + i + " " + m.text(), x.fewest(0), calls);
    Check.promise(24, "gossip");
    for (int k = 0; k < row.size(); k++) {
      Check.same("valley " + i + " call " + k, x.gossip(0, k), row.get(k));
    }
    Check.same("valley " + i + " behind", x.gossip(0, row.size()), NONE);
    Check.promise(25, "ends");
    int lower = m.people < 4 ? m.people * (m.people - 1) / 2 : 2 * m.people - 4;
    int upper = m.people < 4 ? lower : lower + 1;
    Check.same("valley " + i + " lower", x.ends(0, 0), calls == NONE ? NONE : lower);
    Check.same("valley " + i + " upper", x.ends(0, 1), calls == NONE ? NONE : upper);
    trade(m, x, i);
  }

  private static int trades(Model m, int[] knows, int hour, int last, Map<String, Integer> memo) {
    if (hour > last) {
      return allKnow(knows) ? 0 : 1000;
    }
    String key = hour + Arrays.toString(knows);
    if (memo.containsKey(key)) {
      return memo.get(key);
    }
    int best = 1000;
    for (int set = 0; set < 1 << m.lines.size(); set++) {
      int busy = 0;
      boolean lawful = Integer.bitCount(set) <= m.people / 2;
      int[] later = knows.clone();
      for (int i = 0; i < m.lines.size() && lawful; i++) {
        if ((set >> i & 1) == 1) {
          int[] l = m.lines.get(i);
          int both = 1 << l[0] | 1 << l[1];
          lawful = l[4] == 0 && m.works(l, hour) && (busy & both) == 0;
          busy |= both;
          later[l[0]] = knows[l[0]] | knows[l[1]];
          later[l[1]] = later[l[0]];
        }
      }
      if (lawful) {
        best = Math.min(best, Integer.bitCount(set) + trades(m, later, hour + 1, last, memo));
      }
    }
    memo.put(key, best);
    return best;
  }

  private static void trade(Model m, NoonValley x, int i) {
    Check.promise(26, "trade");
    if (m.people > 4 || m.lines.size() > 7) {
      return;
    }
    int before = 1000;
    for (int h = 1; h <= 8; h++) {
      int calls = trades(m, own(m), 1, h, new HashMap<>());
      Check.same("valley " + i + " within " + h, x.trade(0, h, 0), calls >= 1000 ? NONE : calls);
      Check.same("valley " + i + " good " + h, x.trade(0, h, 1), calls >= 1000 ? NONE : calls < before ? 1 : 0);
      before = Math.min(before, calls);
    }
  }

  private static void keeping(Model m, NoonValley x, int i) {
    Check.promise(29, "kept");
    for (int first = 0; first < m.people; first++) {
      int[] levels = new int[m.people];
      levels[first] = 2;
      int[] gone = new int[m.people];
      int want = NONE;
      for (int hour = 0; hour <= 24 && want == NONE; hour++) {
        int[] before = levels.clone();
        Set<Integer> called = new HashSet<>();
        for (int one = 0; one < m.people && hour > 0; one++) {
          if (before[one] < 2 || gone[one] >= m.cards.get(one).size()) {
            continue;
          }
          int other = m.cards.get(one).get(gone[one]);
          if (m.may(one, other, hour) && called.add(other)) {
            gone[one]++;
            levels[other] = m.deaf[other] ? Math.min(2, before[other] + 1) : 2;
          }
        }
        want = Arrays.stream(levels).allMatch(level -> level == 2) ? hour : NONE;
      }
      Check.same("valley " + i + " from " + first, x.kept(0, first), want);
    }
  }

  // Trees.

  private static int[] card(Model m, int one, int above, int[] times) {
    List<int[]> below = new ArrayList<>();
    for (int[] l : m.lines) {
      int other = l[4] == 1 ? NONE : l[0] == one ? l[1] : l[1] == one ? l[0] : NONE;
      if (other != NONE && other != above) {
        card(m, other, one, times);
        below.add(new int[] {other, times[other]});
      }
    }
    below.sort((a, b) -> a[1] != b[1] ? b[1] - a[1] : a[0] - b[0]);
    int[] card = new int[below.size()];
    times[one] = 0;
    for (int i = 0; i < card.length; i++) {
      card[i] = below.get(i)[0];
      times[one] = Math.max(times[one], i + 1 + below.get(i)[1]);
    }
    return card;
  }

  private static void trees(Model m, NoonValley x, int i) {
    Check.promise(30, "tree");
    int first = i % m.people;
    boolean isTree = x.ends(0, 0) != NONE && m.lines.stream().filter(l -> l[4] == 0).count() == m.people - 1;
    if (!isTree) {
      Check.same("valley " + i + " is none", x.tree(0, first, first, NONE), NONE);
      m.lines.clear();
      for (int one = 1; one < m.people; one++) {
        m.lines.add(new int[] {one, (i * 7 + one * 5) % one, 1, 1, 0, NONE});
      }
      Check.read(x, m.text());
    }
    int valley = x.count(0) - 1;
    int[] times = new int[m.people];
    int[] card = card(m, first, NONE, times);
    for (int one = 0; one < m.people; one++) {
      Check.same("valley " + i + " time of " + one, x.tree(valley, first, one, NONE), times[one]);
    }
    for (int k = 0; k < card.length; k++) {
      Check.same("valley " + i + " card " + k, x.tree(valley, first, first, k), card[k]);
    }
    Check.same("valley " + i + " behind", x.tree(valley, first, first, card.length), NONE);
  }

  // Plans.

  private static List<Integer> others(Model m, int[] call) {
    List<Integer> others = new ArrayList<>();
    for (int other = 0; other < m.people; other++) {
      if (other != call[2] && (call[1] == 3 || call[3] == other) && m.may(call[2], other, call[0])) {
        others.add(other);
      }
    }
    return others;
  }

  private static int[] verdicts(Model m) {
    int[] verdicts = new int[m.calls.size()];
    for (int hour = 1; hour <= 24; hour++) {
      Set<Integer> busy = new HashSet<>();
      for (int i = 0; i < verdicts.length; i++) {
        int[] call = m.calls.get(i);
        if (call[0] != hour) {
          continue;
        }
        List<Integer> others = others(m, call);
        verdicts[i] = others.isEmpty() ? 1 : busy.contains(call[2]) ? 2
            : others.stream().anyMatch(busy::contains) ? 3 : 0;
        if (verdicts[i] == 0) {
          busy.add(call[2]);
          busy.addAll(others);
        }
      }
    }
    return verdicts;
  }

  /** How often each was told each news by the end of an hour; 100 and more: it knows. */
  private static int[][] carried(Model m, int lastHour, Set<Integer> lost, int without) {
    int[] verdicts = verdicts(m);
    int[][] told = new int[m.people][4];
    for (int one = 0; one < m.people; one++) {
      for (int news = 0; news < 4; news++) {
        told[one][news] = m.facts[0][news][one] ? 100 : 0;
      }
    }
    for (int hour = 1; hour <= lastHour; hour++) {
      int[][] before = new int[m.people][];
      for (int one = 0; one < m.people; one++) {
        before[one] = told[one].clone();
      }
      for (int i = 0; i < verdicts.length; i++) {
        int[] call = m.calls.get(i);
        if (call[0] == hour && verdicts[i] == 0 && !lost.contains(i) && call[2] != without) {
          for (int other : others(m, call)) {
            if (other != without) {
              tellBoth(m, call, other, before, told);
            }
          }
        }
      }
    }
    return told;
  }

  private static void tellBoth(Model m, int[] call, int other, int[][] before, int[][] told) {
    for (int news = 0; news < 4; news++) {
      boolean there = call[1] != 2 && !(call[1] == 4 && m.barred(news, other));
      boolean back = call[1] == 0 || call[1] == 2;
      if (there && before[call[2]][news] >= 100) {
        tell(m, other, news, told);
      }
      if (back && before[other][news] >= 100) {
        tell(m, call[2], news, told);
      }
    }
  }

  private static void tell(Model m, int one, int news, int[][] told) {
    told[one][news]++;
    if (told[one][news] >= (m.deaf[one] ? 2 : 1)) {
      told[one][news] = 100;
    }
  }

  private static boolean bears(Model m, Set<Integer> lost, int without) {
    int[][] told = carried(m, 24, lost, without);
    for (int one = 0; one < m.people; one++) {
      for (int news = 0; news < 4; news++) {
        if (one != without && m.facts[1][news][one] && told[one][news] < 100) {
          return false;
        }
      }
    }
    return true;
  }

  private static void plans(Model m, NoonValley x, Random random, int i) {
    x.plan(0);
    int number = random.nextInt(i % 20 == 0 ? 41 : 15);
    int span = 1 + random.nextInt(24);
    for (int k = 0; k < number; k++) {
      int one = random.nextInt(m.people);
      int other = (one + 1 + random.nextInt(m.people - 1)) % m.people;
      if (!m.lines.isEmpty() && random.nextInt(3) > 0) {
        int[] l = m.lines.get(random.nextInt(m.lines.size()));
        one = l[0];
        other = l[1];
      }
      m.calls.add(new int[] {1 + random.nextInt(span), random.nextInt(5), one, other});
    }
    // Half of the plans should hold, so that there is something to break.
    if (i % 2 == 0) {
      int[][] told = new int[0][];
      for (int[] call : m.calls) {
        x.call(0, call[0], call[1], call[2], call[3]);
      }
      told = carried(m, 24, new HashSet<>(), NONE);
      for (int one = 0; one < m.people; one++) {
        for (int news = 0; news < 4; news++) {
          m.facts[1][news][one] &= told[one][news] >= 100;
        }
      }
      x = object(m);
      x.plan(0);
    }
    for (int[] call : m.calls) {
      x.call(0, call[0], call[1], call[2], call[3]);
    }
    states(m, x, i);
    breaks(m, x, i);
  }

  private static void states(Model m, NoonValley x, int i) {
    int[] verdicts = verdicts(m);
    int unlawful = NONE;
    Check.promise(12, "lawful");
    for (int k = verdicts.length - 1; k >= 0; k--) {
      Check.same("plan " + i + " call " + k, x.lawful(0, k), verdicts[k]);
      unlawful = verdicts[k] != 0 ? k : unlawful;
    }
    Check.promise(13, "unlawful");
    Check.same("plan " + i, x.unlawful(0), unlawful);
    int broken = NONE;
    int done = NONE;
    int[][] first = new int[4][m.people];
    for (int[] of : first) {
      Arrays.fill(of, NONE);
    }
    for (int hour = 0; hour <= 24; hour++) {
      int[][] told = carried(m, hour, new HashSet<>(), NONE);
      boolean isBroken = false;
      boolean isDone = true;
      int some = 1 + (i * 31 + hour * 17) % ((1 << m.people) - 1);
      int union = 0;
      for (int one = 0; one < m.people; one++) {
        int bits = 0;
        for (int news = 0; news < 4; news++) {
          boolean knows = told[one][news] >= 100;
          bits |= knows ? 1 << news : 0;
          isBroken |= knows && m.facts[2][news][one];
          isDone &= knows || !m.facts[1][news][one];
          first[news][one] = knows && first[news][one] == NONE ? hour : first[news][one];
        }
        Check.promise(14, "known");
        Check.same("plan " + i + " of " + one + " after " + hour, x.known(0, one, hour), bits);
        union |= (some >> one & 1) == 1 ? bits : 0;
      }
      Check.promise(15, "together");
      Check.same("plan " + i + " after " + hour, x.together(0, some, hour), union);
      broken = broken == NONE && isBroken ? hour : broken;
      done = done == NONE && isDone ? hour : done;
      if (m.people <= 4 && hour < 24 && (hour < 3 || hour % 7 == i % 7)) {
        from(m, x, i, told, hour);
      }
    }
    Check.promise(16, "when");
    Check.same("plan " + i + " broken", x.when(0, 0), broken);
    Check.same("plan " + i + " done", x.when(0, 1), done);
    fits(m, x, i, first);
  }

  private static void from(Model m, NoonValley x, int i, int[][] told, int hour) {
    Check.promise(20, "from");
    for (int news = 0; news < 4; news++) {
      int[] levels = new int[m.people];
      for (int one = 0; one < m.people; one++) {
        levels[one] = told[one][news] >= 100 ? 2 : told[one][news];
      }
      Check.same("plan " + i + " news " + news + " after " + hour, x.from(0, news, hour),
          shown(least(m, news, levels, hour + 1)));
    }
  }

  private static void fits(Model m, NoonValley x, int i, int[][] first) {
    Check.promise(37, "fits");
    for (int turn = 0; turn < 2; turn++) {
      for (int news = 0; news < 4; news++) {
        int want = NONE;
        for (int one = m.people - 1; one >= 0; one--) {
          int tale = m.tales[news][one];
          want = tale != NONE && tale != first[news][one] ? one : want;
        }
        Check.same("plan " + i + " news " + news, x.fits(0, news), want);
        // Then with true tales for all but the last.
        for (int one = 0; one < m.people - 1; one++) {
          m.tales[news][one] = first[news][one];
          x.tale(0, news, one, first[news][one]);
        }
      }
    }
  }

  private static void breaks(Model m, NoonValley x, int i) {
    List<Integer> want = null;
    int n = m.calls.size();
    if (!bears(m, new HashSet<>(), NONE)) {
      want = new ArrayList<>();
    }
    for (int a = 0; a < n && want == null; a++) {
      want = bears(m, Set.of(a), NONE) ? null : List.of(a);
    }
    for (int a = 0; a < n && want == null; a++) {
      for (int b = a + 1; b < n && want == null; b++) {
        want = bears(m, Set.of(a, b), NONE) ? null : List.of(a, b);
      }
    }
    for (int a = 0; a < n && n < 20 && want == null; a++) {
      for (int b = a + 1; b < n && want == null; b++) {
        for (int c = b + 1; c < n && want == null; c++) {
          want = bears(m, Set.of(a, b, c), NONE) ? null : List.of(a, b, c);
        }
      }
    }
    Check.promise(31, "breaks");
    if (want != null || n < 20) {
      int size = want == null ? 0 : want.size();
      Check.same("plan " + i, x.breaks(0, NONE), want == null ? NONE : size);
      for (int k = 0; k < size; k++) {
        Check.same("plan " + i + " the " + k, x.breaks(0, k), want.get(k));
      }
      Check.same("plan " + i + " behind", x.breaks(0, size), NONE);
    }
    Check.promise(32, "breaker");
    int breaker = NONE;
    for (int one = m.people - 1; one >= 0; one--) {
      breaker = bears(m, new HashSet<>(), one) ? breaker : one;
    }
    Check.same("plan " + i, x.breaker(0), breaker);
  }

  // Chance and texts.

  private static void ways() {
    Check.promise(33, "ways");
    NoonValley x = new NoonValley();
    for (int people = 2; people <= 4; people++) {
      Map<Integer, Long> sets = new HashMap<>();
      sets.put(1, 1L);
      for (int h = 1; h <= 8; h++) {
        Map<Integer, Long> next = new HashMap<>();
        for (Map.Entry<Integer, Long> e : sets.entrySet()) {
          choose(people, 0, e.getKey(), e.getKey(), e.getValue(), next);
        }
        sets = next;
        for (int k = 1; k <= people; k++) {
          long want = 0;
          for (Map.Entry<Integer, Long> e : sets.entrySet()) {
            want += Integer.bitCount(e.getKey()) == k ? e.getValue() : 0;
          }
          Check.same(people + " people, " + h + " hours, " + k, x.ways(people, h, k), want);
        }
      }
    }
  }

  private static void choose(int people, int one, int knew, int known, long ways, Map<Integer, Long> next) {
    if (one == people) {
      next.merge(known, ways, Long::sum);
      return;
    }
    for (int other = 0; other < people; other++) {
      if (other != one) {
        choose(people, one + 1, knew, (knew >> one & 1) == 1 ? known | 1 << other : known, ways, next);
      }
    }
  }

  /** Texts changed a little: a text without a fault is just one that holds to the rules, read apart. */
  private static void texts(Random random) {
    Check.promise(4, "fault");
    String signs = " ;plokdws0123456789x";
    for (int i = 0; i < 20000; i++) {
      Model m = draw(random, 2 + random.nextInt(6));
      while (m.lines.size() > 3 && random.nextInt(20) > 0) {
        m.lines.remove(0);
      }
      StringBuilder text = new StringBuilder(m.text());
      text.setLength(Math.min(text.length(), 40 + random.nextInt(340)));
      for (int k = random.nextInt(3); k > 0; k--) {
        int place = random.nextInt(text.length());
        char sign = signs.charAt(random.nextInt(signs.length()));
        switch (random.nextInt(3)) {
          case 0:
            text.insert(place, sign);
            break;
          case 1:
            text.setCharAt(place, sign);
            break;
          default:
            text.deleteCharAt(place);
            break;
        }
      }
      int fault = Check.faultOf(text.toString());
      Check.same("'" + text + "'", fault == NONE ? 1 : 0, isValley(text.toString()) ? 1 : 0);
      Check.yes("the fault of '" + text + "' stands in it", fault <= text.length());
      if (fault != NONE && fault < text.length()) {
        String more = text.substring(0, fault + 1);
        Check.same("what comes behind a fault is nothing to it: '" + text + "'", Check.faultOf(more), fault);
      }
    }
  }

  private static boolean isValley(String text) {
    String[] statements = text.split(";", -1);
    int people = 0;
    int lines = 0;
    for (int i = 0; i < statements.length; i++) {
      String s = statements[i].replaceAll("^ +| +$", "");
      if (i == 0 ? !s.matches("p +\\d\\d?") : !s.matches("[lo]( +\\d\\d?){4}|d +\\d\\d?|[kws]( +\\d\\d?){2}")) {
        return false;
      }
      String[] words = s.split(" +");
      int[] n = new int[4];
      for (int k = 1; k < words.length; k++) {
        n[k - 1] = Integer.parseInt(words[k]);
      }
      boolean well;
      switch (s.charAt(0)) {
        case 'p':
          people = n[0];
          well = people >= 1 && people <= 7;
          break;
        case 'd':
          well = n[0] < people;
          break;
        case 'l':
        case 'o':
          lines++;
          well = lines <= 12 && n[0] < people && n[1] < people && n[0] != n[1] && n[2] >= 1 && n[2] <= n[3]
              && n[3] <= 24;
          break;
        default:
          well = n[0] < people && n[1] < 4;
          break;
      }
      if (!well) {
        return false;
      }
    }
    return true;
  }
}
