import java.util.Arrays;
import java.util.NoSuchElementException;

/**
 * A valley in which each may take part in one call an hour. What each method promises stands in the
 * document; the names in capitals there are the plain names here.
 *
 * Sets of people, of news and of lines are bits of an int, those of calls bits of a long.
 */
public final class NoonValley {
    public static final int NONE = -1;

    private static final int MOST_VALLEYS = 10;
    private static final int MOST_PLANS = 12;
    private static final int MOST_PEOPLE = 7;
    private static final int LAST_HOUR = 24;
    private static final int ALL_NEWS = 4;

    private final Tape tape = new Tape();
    private final Valley[] valleys = new Valley[MOST_VALLEYS];
    private final Plan[] plans = new Plan[MOST_PLANS];
    private final Carrying carrying = new Carrying();
    private final Spreading spreading = new Spreading();
    private final Shutting shutting = new Shutting();
    private final Gossip gossip = new Gossip();
    private final Trade trade = new Trade();
    private final Cards cards = new Cards();
    private final Chance chance = new Chance();
    // A text is read into this one; only a text without a fault makes it one of the valleys.
    private Valley spare = new Valley();
    private int valleyCount;
    private int planCount;
    private int callCount;

    public NoonValley() {
    }

    public int feed(int a, int b, int c, int d, int e) {
        return tape.append(a, b, c, d, e);
    }

    public boolean end(int n) {
        return tape.cut(n);
    }

    public int fault() {
        return tape.read(spare);
    }

    public int valley() {
        if (valleyCount >= MOST_VALLEYS || tape.read(spare) != NONE) {
            return NONE;
        }
        spare.settle();
        valleys[valleyCount] = spare;
        spare = new Valley();
        tape.cut(0);
        valleyCount++;
        return valleyCount - 1;
    }

    public int told(int valley, int what) {
        Valley v = valleyAt(valley);
        if (v == null || what < 0) {
            return NONE;
        }
        if (what < ALL_NEWS) {
            return what == 0 ? v.people : what == 1 ? v.lineCount : what == 2 ? v.deaf : NONE;
        }
        int news = what % ALL_NEWS;
        switch (what / ALL_NEWS) {
            case 1:
                return v.knows[news];
            case 2:
                return v.must[news];
            case 3:
                return v.mustNot[news];
            default:
                return NONE;
        }
    }

    public int line(int valley, int line, int what) throws NoSuchElementException {
        Valley v = valleyAt(valley);
        if (v == null || !v.hasLine(line) || what < 0 || what >= Valley.LINE_FACTS) {
            throw new NoSuchElementException();
        }
        return v.lineFact(line, what);
    }

    public boolean down(int valley, int line, int hour) {
        Valley v = valleyAt(valley);
        if (v == null || !v.hasLine(line) || hour != NONE && !isHour(hour)) {
            return false;
        }
        v.setDown(line, hour);
        return true;
    }

    public int may(int valley, int one, int other, int hour) {
        Valley v = valleyAt(valley);
        if (v == null || !v.hasCouple(one, other) || !isHour(hour)) {
            return NONE;
        }
        return has(v.callable(one, hour), other) ? 1 : 0;
    }

    public int plan(int valley) {
        Valley v = valleyAt(valley);
        if (v == null || planCount >= MOST_PLANS) {
            return NONE;
        }
        plans[planCount] = new Plan(v);
        planCount++;
        return planCount - 1;
    }

    public int call(int plan, int hour, int kind, int one, int other) {
        Plan p = planAt(plan);
        if (p == null || !isHour(hour) || kind < Plan.BOTH || kind > Plan.SHUT || !p.hasRoom()) {
            return NONE;
        }
        boolean such = kind == Plan.SHOUT ? p.valley.hasPerson(one) : p.valley.hasCouple(one, other);
        if (!such) {
            return NONE;
        }
        callCount++;
        return p.append(hour, kind, one, other);
    }

    public int lawful(int plan, int call) {
        Plan p = planAt(plan);
        if (p == null || call < 0 || call >= p.count) {
            return NONE;
        }
        p.judge();
        return p.verdict[call];
    }

    public int unlawful(int plan) {
        Plan p = planAt(plan);
        if (p == null) {
            return NONE;
        }
        p.judge();
        for (int call = 0; call < p.count; call++) {
            if (p.verdict[call] != 0) {
                return call;
            }
        }
        return NONE;
    }

    public int known(int plan, int one, int hour) {
        Plan p = planAt(plan);
        if (p == null || !p.valley.hasPerson(one) || !isHourOrFirst(hour)) {
            return NONE;
        }
        carrying.carryAll(p, hour);
        return carrying.known[one];
    }

    public int together(int plan, int some, int hour) {
        Plan p = planAt(plan);
        if (p == null || some < 1 || some > p.valley.everyone() || !isHourOrFirst(hour)) {
            return NONE;
        }
        carrying.carryAll(p, hour);
        int news = 0;
        for (int one = 0; one < p.valley.people; one++) {
            if (has(some, one)) {
                news |= carrying.known[one];
            }
        }
        return news;
    }

    public int when(int plan, int what) {
        Plan p = planAt(plan);
        if (p == null || what < 0 || what > 1) {
            return NONE;
        }
        for (int hour = 0; hour <= LAST_HOUR; hour++) {
            carrying.carryAll(p, hour);
            if (what == 0 ? carrying.isBroken(p.valley) : carrying.isDone(p.valley, NONE)) {
                return hour;
            }
        }
        return NONE;
    }

    public int least(int valley, int news, int hour) {
        Valley v = valleyAt(valley);
        if (v == null || !isNews(news) || !isHour(hour)) {
            return NONE;
        }
        spreading.prepare(v, news);
        return spreading.leastHours(v.knows[news], 0, hour);
    }

    public int found(int valley, int news, int hour, int k, int one) {
        Valley v = valleyAt(valley);
        if (v == null || !isNews(news) || !isHour(hour) || k < 0 || !v.hasPerson(one)) {
            return NONE;
        }
        spreading.prepare(v, news);
        int row = spreading.lowestRow(v.knows[news], hour, k);
        return row == NONE ? NONE : Rows.calledIn(row, one);
    }

    public int reach(int valley, int news, int hour, int k) {
        Valley v = valleyAt(valley);
        if (v == null || !isNews(news) || !isHour(hour) || k < 0 || k > LAST_HOUR + 1 - hour) {
            return NONE;
        }
        spreading.prepare(v, news);
        return spreading.upperEnd(v.knows[news], hour, k);
    }

    public int from(int plan, int news, int hour) {
        Plan p = planAt(plan);
        if (p == null || !isNews(news) || !isHourOrFirst(hour) || hour == LAST_HOUR) {
            return NONE;
        }
        carrying.carryAll(p, hour);
        spreading.prepare(p.valley, news);
        return spreading.leastHours(carrying.whoKnows(news), carrying.whoIsToldOnce(news), hour + 1);
    }

    public int added(int valley, int news, int what) {
        Valley v = valleyAt(valley);
        if (v == null || !isNews(news) || what < 0 || what > 2 || !spreading.findAdded(v, news)) {
            return NONE;
        }
        return what == 0 ? spreading.addedA : what == 1 ? spreading.addedB : spreading.spared;
    }

    public int shut(int valley, int news, int one, int hour) {
        Valley v = valleyAt(valley);
        if (v == null || !isNews(news) || !v.hasPerson(one) || !isHour(hour)) {
            return NONE;
        }
        return shutting.fewestLines(v, news, one, hour);
    }

    public int fewest(int valley) {
        Valley v = valleyAt(valley);
        return v == null ? NONE : gossip.fewestCalls(v);
    }

    public int gossip(int valley, int i) {
        Valley v = valleyAt(valley);
        if (v == null || i < 0 || i >= gossip.fewestCalls(v)) {
            return NONE;
        }
        return v.gossipLines[i];
    }

    public int ends(int valley, int what) {
        Valley v = valleyAt(valley);
        if (v == null || what < 0 || what > 1 || !v.holdsTogether()) {
            return NONE;
        }
        return what == 0 ? Gossip.lowerEnd(v.people) : Gossip.upperEnd(v.people);
    }

    public int trade(int valley, int h, int what) {
        Valley v = valleyAt(valley);
        if (v == null || v.people > Trade.MOST || h < 1 || h > Trade.HOURS || what < 0 || what > 1) {
            return NONE;
        }
        int calls = trade.fewestCalls(v, h);
        if (what == 0 || calls == NONE) {
            return calls;
        }
        // A lesser h never needs fewer calls, so it is enough to look at the next lesser one.
        return h > 1 && trade.fewestCalls(v, h - 1) == calls ? 0 : 1;
    }

    public int card(int valley, int of, int other) {
        Valley v = valleyAt(valley);
        if (v == null || !v.hasCouple(of, other)) {
            return NONE;
        }
        return v.appendToCard(of, other);
    }

    public boolean blank(int valley) {
        Valley v = valleyAt(valley);
        if (v == null) {
            return false;
        }
        v.emptyCards();
        return true;
    }

    public int kept(int valley, int first) {
        Valley v = valleyAt(valley);
        if (v == null || !v.hasPerson(first)) {
            return NONE;
        }
        return cards.hoursTillAllKnow(v, first);
    }

    public int tree(int valley, int first, int one, int i) {
        Valley v = valleyAt(valley);
        if (v == null || !v.hasPerson(first) || !v.hasPerson(one) || i < NONE || !cards.growTree(v, first)) {
            return NONE;
        }
        return i == NONE ? cards.time[one] : cards.below(one, i);
    }

    public int breaks(int plan, int i) {
        Plan p = planAt(plan);
        if (p == null || i < NONE) {
            return NONE;
        }
        int calls = carrying.fewestToBreak(p);
        if (i == NONE || calls == NONE) {
            return calls;
        }
        return i < calls ? carrying.breakingCall(i) : NONE;
    }

    public int breaker(int plan) {
        Plan p = planAt(plan);
        return p == null ? NONE : carrying.lowestBreaker(p);
    }

    public long ways(int people, int h, int k) {
        if (people < 2 || people > 4 || h < 1 || h > 8 || k < 1 || k > people) {
            return NONE;
        }
        return chance.countWays(people, h, k);
    }

    public int drawn(int people, int first, long seed) {
        if (people < 2 || people > MOST_PEOPLE || first < 0 || first >= people) {
            return NONE;
        }
        return Chance.drawHours(people, first, seed);
    }

    public boolean tale(int valley, int news, int one, int hour) {
        Valley v = valleyAt(valley);
        if (v == null || !isNews(news) || !v.hasPerson(one) || hour != NONE && !isHourOrFirst(hour)) {
            return false;
        }
        v.setTale(news, one, hour);
        return true;
    }

    public int who(int valley, int news) {
        Valley v = valleyAt(valley);
        if (v == null || !isNews(news)) {
            return NONE;
        }
        spreading.prepare(v, news);
        int begun = 0;
        for (int one = 0; one < v.people; one++) {
            if (spreading.canHaveBegun(v, news, one)) {
                begun |= 1 << one;
            }
        }
        return begun;
    }

    public int fits(int plan, int news) {
        Plan p = planAt(plan);
        if (p == null || !isNews(news)) {
            return NONE;
        }
        int open = p.valley.whoHasTale(news);
        int wrong = 0;
        for (int hour = 0; hour <= LAST_HOUR; hour++) {
            carrying.carryAll(p, hour);
            int now = open & carrying.whoKnows(news);
            wrong |= now & ~p.valley.whoseTaleIs(news, hour);
            open &= ~now;
        }
        wrong |= open;
        return lowestOf(wrong);
    }

    public int count(int what) {
        switch (what) {
            case 0:
                return valleyCount;
            case 1:
                return planCount;
            case 2:
                return callCount;
            case 3:
                return tape.length;
            default:
                return NONE;
        }
    }

    private Valley valleyAt(int number) {
        return number < 0 || number >= valleyCount ? null : valleys[number];
    }

    private Plan planAt(int number) {
        return number < 0 || number >= planCount ? null : plans[number];
    }

    private static boolean isHour(int hour) {
        return hour >= 1 && hour <= LAST_HOUR;
    }

    private static boolean isHourOrFirst(int hour) {
        return hour >= 0 && hour <= LAST_HOUR;
    }

    private static boolean isNews(int news) {
        return news >= 0 && news < ALL_NEWS;
    }

    private static boolean has(int set, int one) {
        return (set >> one & 1) != 0;
    }

    /** NONE: nobody is in the set. */
    private static int lowestOf(int people) {
        for (int one = 0; one < MOST_PEOPLE; one++) {
            if (has(people, one)) {
                return one;
            }
        }
        return NONE;
    }

    /**
     * The bytes that have come and are no valley yet. Where a method that reads them tells that it
     * fails, the place is that of the fault.
     */
    private static final class Tape {
        private static final int MOST = 400;

        private final int[] bytes = new int[MOST];
        private int length;
        private int place;

        int append(int a, int b, int c, int d, int e) {
            int more = bytesIn(a) + bytesIn(b) + bytesIn(c) + bytesIn(d) + bytesIn(e);
            if (length + more > MOST) {
                return NONE;
            }
            appendNumber(a);
            appendNumber(b);
            appendNumber(c);
            appendNumber(d);
            appendNumber(e);
            return length;
        }

        boolean cut(int n) {
            if (n < 0 || n > length) {
                return false;
            }
            length = n;
            return true;
        }

        /** The byte at a place; NONE behind the last one. */
        private int at(int where) {
            return where < 0 || where >= length ? NONE : bytes[where];
        }

        private static int bytesIn(int number) {
            int bytes = 0;
            for (int shift = 24; shift >= 0; shift -= 8) {
                if ((number >>> shift & 255) != 0) {
                    bytes++;
                }
            }
            return bytes;
        }

        private void appendNumber(int number) {
            for (int shift = 24; shift >= 0; shift -= 8) {
                int one = number >>> shift & 255;
                if (one != 0 && length < MOST) {
                    bytes[length] = one;
                    length++;
                }
            }
        }

        /** The fault, or NONE; what the text tells up to there is in the valley. */
        int read(Valley into) {
            place = 0;
            into.forget();
            skipBlanks();
            if (at(place) != 'p') {
                return place;
            }
            place++;
            into.people = number(1, MOST_PEOPLE, NONE);
            if (into.people == NONE) {
                return place;
            }
            skipBlanks();
            while (place < length) {
                if (at(place) != ';') {
                    return place;
                }
                place++;
                skipBlanks();
                if (!statement(into)) {
                    return place;
                }
                skipBlanks();
            }
            return NONE;
        }

        private void skipBlanks() {
            while (place < length && at(place) == ' ') {
                place++;
            }
        }

        private boolean statement(Valley into) {
            switch (at(place)) {
                case 'l':
                    return lineOf(into, 0);
                case 'o':
                    return lineOf(into, 1);
                case 'k':
                    return newsOf(into, into.knows);
                case 'w':
                    return newsOf(into, into.must);
                case 's':
                    return newsOf(into, into.mustNot);
                case 'd':
                    return deafOne(into);
                default:
                    return false;
            }
        }

        private boolean lineOf(Valley into, int oneWay) {
            if (!into.hasRoomForLine()) {
                return false;
            }
            place++;
            int a = number(0, into.people - 1, NONE);
            if (a == NONE) {
                return false;
            }
            int b = number(0, into.people - 1, a);
            if (b == NONE) {
                return false;
            }
            int from = number(1, LAST_HOUR, NONE);
            if (from == NONE) {
                return false;
            }
            int to = number(from, LAST_HOUR, NONE);
            if (to == NONE) {
                return false;
            }
            into.appendLine(a, b, from, to, oneWay);
            return true;
        }

        private boolean newsOf(Valley into, int[] people) {
            place++;
            int one = number(0, into.people - 1, NONE);
            if (one == NONE) {
                return false;
            }
            int news = number(0, ALL_NEWS - 1, NONE);
            if (news < 0 || news >= people.length) {
                return false;
            }
            people[news] |= 1 << one;
            return true;
        }

        private boolean deafOne(Valley into) {
            place++;
            int one = number(0, into.people - 1, NONE);
            if (one == NONE) {
                return false;
            }
            into.deaf |= 1 << one;
            return true;
        }

        /** A number in these bounds that is not the unlike one; NONE: it fails. */
        private int number(int lowest, int highest, int unlike) {
            int start = place;
            skipBlanks();
            if (place == start || !isDigit(place)) {
                return NONE;
            }
            int value = at(place) - '0';
            if (isDigit(place + 1)) {
                place++;
                value = value * 10 + at(place) - '0';
            }
            if (value < lowest || value > highest || value == unlike) {
                return NONE;
            }
            place++;
            return value;
        }

        private boolean isDigit(int where) {
            int one = at(where);
            return one >= '0' && one <= '9';
        }
    }

    /** A valley with what has been told for it by hand: lines that are down, cards and tales. */
    private static final class Valley {
        static final int LINE_FACTS = 6;
        private static final int MOST_LINES = 12;
        private static final int A = 0;
        private static final int B = 1;
        private static final int FROM = 2;
        private static final int TO = 3;
        private static final int ONE_WAY = 4;
        private static final int DOWN = 5;
        private static final int MOST_ON_CARD = 6;
        private static final int NOT_ASKED = -2;

        private int people;
        private int lineCount;
        private int deaf;
        // Who knows, must know, must not know a news; and of one of the people, which news these are.
        private final int[] knows = new int[ALL_NEWS];
        private final int[] must = new int[ALL_NEWS];
        private final int[] mustNot = new int[ALL_NEWS];
        private final int[] firstNews = new int[MOST_PEOPLE];
        private final int[] mustNews = new int[MOST_PEOPLE];
        private final int[] mustNotNews = new int[MOST_PEOPLE];
        private final int[] lines = new int[MOST_LINES * LINE_FACTS];
        // Whom one may call in an hour, at hour * MOST_PEOPLE + one.
        private final int[] callable = new int[(LAST_HOUR + 1) * MOST_PEOPLE];
        private final int[] cards = new int[MOST_PEOPLE * MOST_ON_CARD];
        private final int[] cardLength = new int[MOST_PEOPLE];
        private final int[] tales = new int[ALL_NEWS * MOST_PEOPLE];
        // The lines never change, so the row of fewest calls is searched for once.
        private int gossipLength = NOT_ASKED;
        private final int[] gossipLines = new int[Gossip.MOST_CALLS];

        /** As before a text is read. */
        void forget() {
            people = 0;
            lineCount = 0;
            deaf = 0;
            Arrays.fill(knows, 0);
            Arrays.fill(must, 0);
            Arrays.fill(mustNot, 0);
        }

        /** Once the whole text has been read. */
        void settle() {
            Arrays.fill(tales, NONE);
            for (int one = 0; one < MOST_PEOPLE; one++) {
                firstNews[one] = newsOfOne(knows, one);
                mustNews[one] = newsOfOne(must, one);
                mustNotNews[one] = newsOfOne(mustNot, one);
            }
            lookAtLines();
        }

        private static int newsOfOne(int[] peopleOfNews, int one) {
            int set = 0;
            for (int news = 0; news < peopleOfNews.length; news++) {
                if (has(peopleOfNews[news], one)) {
                    set |= 1 << news;
                }
            }
            return set;
        }

        boolean hasPerson(int one) {
            return one >= 0 && one < people;
        }

        boolean hasCouple(int one, int other) {
            return hasPerson(one) && hasPerson(other) && one != other;
        }

        int everyone() {
            return (1 << people) - 1;
        }

        boolean hasRoomForLine() {
            return lineCount < MOST_LINES;
        }

        void appendLine(int a, int b, int from, int to, int oneWay) {
            if (!hasRoomForLine()) {
                return;
            }
            int start = lineCount * LINE_FACTS;
            lines[start + A] = a;
            lines[start + B] = b;
            lines[start + FROM] = from;
            lines[start + TO] = to;
            lines[start + ONE_WAY] = oneWay;
            lines[start + DOWN] = NONE;
            lineCount++;
        }

        boolean hasLine(int line) {
            return line >= 0 && line < lineCount;
        }

        int lineFact(int line, int what) {
            return lines[line * LINE_FACTS + what];
        }

        int lineA(int line) {
            return lineFact(line, A);
        }

        int lineB(int line) {
            return lineFact(line, B);
        }

        boolean isOneWay(int line) {
            return lineFact(line, ONE_WAY) == 1;
        }

        boolean isOpen(int line, int hour) {
            return lineFact(line, FROM) <= hour && hour <= lineFact(line, TO);
        }

        boolean works(int line, int hour) {
            int down = lineFact(line, DOWN);
            return isOpen(line, hour) && (down == NONE || hour < down);
        }

        void setDown(int line, int hour) {
            lines[line * LINE_FACTS + DOWN] = hour;
            lookAtLines();
        }

        private void lookAtLines() {
            Arrays.fill(callable, 0);
            for (int line = 0; line < lineCount; line++) {
                int a = lineA(line);
                int b = lineB(line);
                for (int hour = 1; hour <= LAST_HOUR; hour++) {
                    if (works(line, hour)) {
                        callable[hour * MOST_PEOPLE + a] |= 1 << b;
                        if (!isOneWay(line)) {
                            callable[hour * MOST_PEOPLE + b] |= 1 << a;
                        }
                    }
                }
            }
        }

        int callable(int one, int hour) {
            return callable[hour * MOST_PEOPLE + one];
        }

        boolean hasLineBetween(int one, int other) {
            for (int line = 0; line < lineCount; line++) {
                int a = lineA(line);
                int b = lineB(line);
                if (a == one && b == other || a == other && b == one) {
                    return true;
                }
            }
            return false;
        }

        /** Those with a line by which one and they may call each other. */
        int neighbours(int one) {
            int set = 0;
            for (int line = 0; line < lineCount; line++) {
                if (isOneWay(line)) {
                    continue;
                }
                if (lineA(line) == one) {
                    set |= 1 << lineB(line);
                }
                if (lineB(line) == one) {
                    set |= 1 << lineA(line);
                }
            }
            return set;
        }

        int twoWayLines() {
            int number = 0;
            for (int line = 0; line < lineCount; line++) {
                if (!isOneWay(line)) {
                    number++;
                }
            }
            return number;
        }

        boolean holdsTogether() {
            int held = 1;
            for (int step = 1; step < people; step++) {
                int more = held;
                for (int one = 0; one < people; one++) {
                    if (has(held, one)) {
                        more |= neighbours(one);
                    }
                }
                held = more;
            }
            return held == everyone();
        }

        int appendToCard(int of, int other) {
            int length = cardLength[of];
            if (length >= MOST_ON_CARD) {
                return NONE;
            }
            cards[of * MOST_ON_CARD + length] = other;
            cardLength[of] = length + 1;
            return length + 1;
        }

        void emptyCards() {
            Arrays.fill(cardLength, 0);
        }

        /** Whom a card tells to call next, when so many on it have been called; NONE: it is gone through. */
        int nextOnCard(int of, int called) {
            return called >= cardLength[of] ? NONE : cards[of * MOST_ON_CARD + called];
        }

        void setTale(int news, int one, int hour) {
            tales[news * MOST_PEOPLE + one] = hour;
        }

        int taleOf(int news, int one) {
            return tales[news * MOST_PEOPLE + one];
        }

        int whoseTaleIs(int news, int hour) {
            int set = 0;
            for (int one = 0; one < people; one++) {
                if (taleOf(news, one) == hour) {
                    set |= 1 << one;
                }
            }
            return set;
        }

        int whoHasTale(int news) {
            return everyone() & ~whoseTaleIs(news, NONE);
        }
    }

    /** The calls of a plan. */
    private static final class Plan {
        static final int BOTH = 0;
        static final int ONE = 1;
        static final int ANSWER = 2;
        static final int SHOUT = 3;
        static final int SHUT = 4;
        private static final int MOST = 40;

        private final Valley valley;
        private int count;
        private final int[] hours = new int[MOST];
        private final int[] kinds = new int[MOST];
        private final int[] callers = new int[MOST];
        private final int[] called = new int[MOST];
        // The numbers of the calls, hour by hour.
        private final int[] order = new int[MOST];
        // As judged last: whether lawful, and whom the caller gets on the line.
        private final int[] verdict = new int[MOST];
        private final int[] others = new int[MOST];

        Plan(Valley valley) {
            this.valley = valley;
        }

        boolean hasRoom() {
            return count < MOST;
        }

        int append(int hour, int kind, int one, int other) {
            if (!hasRoom()) {
                return NONE;
            }
            hours[count] = hour;
            kinds[count] = kind;
            callers[count] = one;
            called[count] = other;
            int place = count;
            while (place > 0 && hours[order[place - 1]] > hour) {
                order[place] = order[place - 1];
                place--;
            }
            order[place] = count;
            count++;
            return count - 1;
        }

        /** Looks again at which calls are lawful: lines may have gone down or come back. */
        void judge() {
            int hour = 0;
            int busy = 0;
            for (int i = 0; i < count; i++) {
                int call = order[i];
                if (hours[call] != hour) {
                    hour = hours[call];
                    busy = 0;
                }
                int caller = callers[call];
                int wanted = kinds[call] == SHOUT ? -1 : 1 << called[call];
                others[call] = wanted & valley.callable(caller, hour);
                verdict[call] = verdictOf(caller, others[call], busy);
                if (verdict[call] == 0) {
                    busy |= 1 << caller | others[call];
                }
            }
        }

        private static int verdictOf(int caller, int others, int busy) {
            if (others == 0) {
                return 1;
            }
            if (has(busy, caller)) {
                return 2;
            }
            return (others & busy) != 0 ? 3 : 0;
        }
    }

    /** Carries the news of a plan's lawful calls, and finds by which loss the plan breaks. */
    private static final class Carrying {
        private static final int MOST_LOST = 3;

        private final int[] known = new int[MOST_PEOPLE];
        private final int[] toldOnce = new int[MOST_PEOPLE];
        private int deaf;
        // The calls that told somebody something new.
        private long useful;
        private long breaking;

        void carryAll(Plan plan, int lastHour) {
            plan.judge();
            carry(plan, lastHour, 0L, NONE);
        }

        /** With these calls lost, and one of the people (or NONE); the plan has been judged. */
        private void carry(Plan plan, int lastHour, long lost, int without) {
            deaf = plan.valley.deaf;
            useful = 0L;
            for (int one = 0; one < MOST_PEOPLE; one++) {
                known[one] = plan.valley.firstNews[one];
                toldOnce[one] = 0;
            }
            for (int i = 0; i < plan.count; i++) {
                int call = plan.order[i];
                if (plan.hours[call] > lastHour) {
                    return;
                }
                if (plan.verdict[call] == 0 && (lost >> call & 1L) == 0L && carryCall(plan, call, without)) {
                    useful |= 1L << call;
                }
            }
        }

        /*
         * Nobody takes part in two lawful calls of an hour, so what is known at a call's turn is what
         * was known as its hour began.
         */
        private boolean carryCall(Plan plan, int call, int without) {
            int caller = plan.callers[call];
            if (caller == without) {
                return false;
            }
            if (plan.kinds[call] == Plan.SHOUT) {
                return shout(caller, plan.others[call], without);
            }
            int other = plan.called[call];
            if (other == without) {
                return false;
            }
            int callerKnew = known[caller];
            int otherKnew = known[other];
            switch (plan.kinds[call]) {
                case Plan.BOTH:
                    boolean there = tell(other, callerKnew);
                    boolean back = tell(caller, otherKnew);
                    return there || back;
                case Plan.ANSWER:
                    return tell(caller, otherKnew);
                case Plan.SHUT:
                    return tell(other, callerKnew & ~plan.valley.mustNotNews[other]);
                default:
                    return tell(other, callerKnew);
            }
        }

        private boolean shout(int caller, int others, int without) {
            boolean anythingNew = false;
            for (int other = 0; other < MOST_PEOPLE; other++) {
                if (has(others, other) && other != without && tell(other, known[caller])) {
                    anythingNew = true;
                }
            }
            return anythingNew;
        }

        private boolean tell(int one, int news) {
            int heard = news & ~known[one];
            int understood = has(deaf, one) ? heard & toldOnce[one] : heard;
            known[one] |= understood;
            toldOnce[one] = (toldOnce[one] | heard) & ~known[one];
            return heard != 0;
        }

        int whoKnows(int news) {
            return peopleOfNews(known, news);
        }

        int whoIsToldOnce(int news) {
            return peopleOfNews(toldOnce, news);
        }

        private static int peopleOfNews(int[] newsOfOne, int news) {
            int set = 0;
            for (int one = 0; one < newsOfOne.length; one++) {
                if (has(newsOfOne[one], news)) {
                    set |= 1 << one;
                }
            }
            return set;
        }

        boolean isBroken(Valley valley) {
            for (int one = 0; one < valley.people; one++) {
                if ((known[one] & valley.mustNotNews[one]) != 0) {
                    return true;
                }
            }
            return false;
        }

        boolean isDone(Valley valley, int without) {
            for (int one = 0; one < valley.people; one++) {
                if (one != without && (valley.mustNews[one] & ~known[one]) != 0) {
                    return false;
                }
            }
            return true;
        }

        private boolean bears(Plan plan, long lost, int without) {
            carry(plan, LAST_HOUR, lost, without);
            return isDone(plan.valley, without);
        }

        /** How many calls break the plan, at the fewest; NONE: no three do. */
        int fewestToBreak(Plan plan) {
            plan.judge();
            breaking = 0L;
            if (!bears(plan, 0L, NONE)) {
                return 0;
            }
            for (int number = 1; number <= MOST_LOST; number++) {
                if (findBreaking(plan, 0L, 0, number)) {
                    return number;
                }
            }
            return NONE;
        }

        /** Whether so many more calls, from this one on, break the plan: the lowest such set is kept. */
        private boolean findBreaking(Plan plan, long lost, int first, int more) {
            long worth = -1L;
            if (more <= 1) {
                // The last loss counts only if that call still tells somebody something new.
                carry(plan, LAST_HOUR, lost, NONE);
                worth = useful;
            }
            for (int call = first; call < plan.count; call++) {
                if (plan.verdict[call] != 0 || (worth >> call & 1L) == 0L) {
                    continue;
                }
                long set = lost | 1L << call;
                if (more > 1) {
                    if (findBreaking(plan, set, call + 1, more - 1)) {
                        return true;
                    }
                    continue;
                }
                carry(plan, LAST_HOUR, set, NONE);
                if (!isDone(plan.valley, NONE)) {
                    breaking = set;
                    return true;
                }
            }
            return false;
        }

        /** The i-th call of the set found last. */
        int breakingCall(int i) {
            int left = i;
            for (int call = 0; call < Plan.MOST; call++) {
                if ((breaking >> call & 1L) != 0L) {
                    if (left == 0) {
                        return call;
                    }
                    left--;
                }
            }
            return NONE;
        }

        int lowestBreaker(Plan plan) {
            plan.judge();
            for (int one = 0; one < plan.valley.people; one++) {
                if (!bears(plan, 0L, one)) {
                    return one;
                }
            }
            return NONE;
        }
    }

    /**
     * The rows of one hour: whom each one calls. Only those to which no call can be added, the lowest
     * ahead, and of those that call the same people just the lowest.
     */
    private static final class Rows {
        private static final int NO_ONE = 7;
        private static final int BITS = 3;
        private static final int SETS = 1 << MOST_PEOPLE;

        // The people called in each row, and the row itself, of each one whom it calls.
        private final int[] sets = new int[SETS];
        private final int[] rows = new int[SETS];
        private final boolean[] met = new boolean[SETS];
        private int count;
        // Whom each one could call, were all others silent.
        private final int[] choices = new int[MOST_PEOPLE];
        private int people;

        static int calledIn(int row, int one) {
            return row >> one * BITS & NO_ONE;
        }

        void forget() {
            for (int i = 0; i < count; i++) {
                met[sets[i]] = false;
            }
            count = 0;
            people = 0;
        }

        /** The next of the people may call these. */
        void append(int choice) {
            if (people < MOST_PEOPLE) {
                choices[people] = choice;
                people++;
            }
        }

        /** Finds all rows, when those ahead of this one call these people in this row, or are silent. */
        private void findAll(int one, int called, int silent, int row) {
            if (one >= people) {
                take(called, silent, row);
                return;
            }
            int choice = choices[one] & ~called;
            for (int other = 0; other < people; other++) {
                if (has(choice, other)) {
                    findAll(one + 1, called | 1 << other, silent, row | other << one * BITS);
                }
            }
            findAll(one + 1, called, silent | 1 << one, row | NO_ONE << one * BITS);
        }

        private void take(int called, int silent, int row) {
            for (int one = 0; one < people; one++) {
                if (has(silent, one) && (choices[one] & ~called) != 0) {
                    return;
                }
            }
            if (!met[called]) {
                met[called] = true;
                sets[count] = called;
                rows[count] = row;
                count++;
            }
        }
    }

    /**
     * Spreads one news by calls of the kind ONE, hour by hour. A state is who knows it, and who, being
     * deaf, has been told it once. Whoever knows more can do all that one who knows less can, so rows
     * to which a call can be added need no look; nor can such a row be the lowest that will do.
     */
    private static final class Spreading {
        private static final int SETS = 1 << MOST_PEOPLE;
        // Each of the people knows it, or has been told it once, or neither.
        private static final int STATES = 2187;
        private static final int NOT_DONE = 25;

        private final Rows rows = new Rows();
        private int people;
        private int deaf;
        private int takingPart;
        private int must;
        private final int[] callable = new int[(LAST_HOUR + 1) * MOST_PEOPLE];
        // Of each set the sum of three to the power of each one in it, for a state's place below.
        private final int[] powers = new int[SETS];
        private final int[] stateAt = new int[STATES];
        // Bits of how many hours have gone by: when a state is come to, and when it is on a best way.
        private final int[] comeTo = new int[STATES];
        private final int[] good = new int[STATES];
        private int[] now = new int[STATES];
        private int[] next = new int[STATES];
        private int nowCount;
        private int nextCount;
        private int addedA;
        private int addedB;
        private int spared;

        Spreading() {
            for (int set = 1; set < SETS; set++) {
                powers[set] = set % 2 + 3 * powers[set / 2];
            }
            for (int known = 0; known < SETS; known++) {
                for (int once = 0; once < SETS; once++) {
                    if ((known & once) == 0) {
                        stateAt[2 * powers[known] + powers[once]] = state(known, once);
                    }
                }
            }
        }

        private static int state(int known, int once) {
            return known | once << MOST_PEOPLE;
        }

        private static int knownIn(int state) {
            return state & SETS - 1;
        }

        private static int onceIn(int state) {
            return state >> MOST_PEOPLE & SETS - 1;
        }

        private int placeOf(int state) {
            int place = 2 * powers[knownIn(state)] + powers[onceIn(state)];
            return place < STATES ? place : 0;
        }

        void prepare(Valley valley, int news) {
            people = valley.people;
            deaf = valley.deaf;
            takingPart = valley.everyone() & ~valley.mustNot[news];
            must = valley.must[news];
            for (int hour = 1; hour <= LAST_HOUR; hour++) {
                for (int one = 0; one < people; one++) {
                    int set = has(takingPart, one) ? valley.callable(one, hour) & takingPart : 0;
                    callable[hour * MOST_PEOPLE + one] = set;
                }
            }
        }

        private void openLine(int a, int b) {
            if (!has(takingPart, a) || !has(takingPart, b)) {
                return;
            }
            for (int hour = 1; hour <= LAST_HOUR; hour++) {
                callable[hour * MOST_PEOPLE + a] |= 1 << b;
                callable[hour * MOST_PEOPLE + b] |= 1 << a;
            }
        }

        /** How many hours are needed; NONE: it can't be done. */
        int leastHours(int known, int once, int hour) {
            begin(known, once);
            if (isDone(known)) {
                return 0;
            }
            if (!isDone(comeToBy(known, hour, LAST_HOUR))) {
                return NONE;
            }
            for (int h = hour; h <= LAST_HOUR; h++) {
                int hours = h - hour + 1;
                for (int i = 0; i < nowCount; i++) {
                    findRows(now[i], h, takingPart);
                    arriveByAll(now[i], hours, 0);
                }
                swap();
                if (isDoneInOne()) {
                    return hours;
                }
            }
            return NONE;
        }

        private boolean isDone(int known) {
            return (must & ~known) == 0;
        }

        private boolean isDoneInOne() {
            for (int i = 0; i < nowCount; i++) {
                if (isDone(knownIn(now[i]))) {
                    return true;
                }
            }
            return false;
        }

        private void begin(int known, int once) {
            Arrays.fill(comeTo, 0);
            nowCount = 0;
            nextCount = 0;
            arrive(state(known, once), 0);
            swap();
        }

        private void swap() {
            int[] old = now;
            now = next;
            next = old;
            nowCount = nextCount;
            nextCount = 0;
        }

        private void arrive(int state, int hours) {
            int place = placeOf(state);
            if (!has(comeTo[place], hours) && nextCount < STATES) {
                comeTo[place] |= 1 << hours;
                next[nextCount] = state;
                nextCount++;
            }
        }

        private void arriveByAll(int state, int hours, int forced) {
            for (int i = 0; i < rows.count; i++) {
                if ((forced & ~rows.sets[i]) == 0) {
                    arrive(stateAfter(state, rows.sets[i]), hours);
                }
            }
        }

        /** The rows of an hour from a state on, with calls to these alone. */
        private void findRows(int state, int hour, int targets) {
            int known = knownIn(state);
            rows.forget();
            for (int one = 0; one < people; one++) {
                rows.append(has(known, one) ? callable[hour * MOST_PEOPLE + one] & targets & ~known : 0);
            }
            rows.findAll(0, 0, 0, 0);
        }

        private int stateAfter(int state, int called) {
            int known = knownIn(state) | called & understands(state);
            return state(known, (onceIn(state) | called) & ~known);
        }

        /** Those who know the news once they are told it now. */
        private int understands(int state) {
            return ~deaf | onceIn(state);
        }

        /** Who can be come to in these hours, one step an hour. */
        private int comeToBy(int known, int hour, int lastHour) {
            int come = known;
            for (int h = hour; h <= lastHour; h++) {
                come = comeToAfter(come, h);
            }
            return come;
        }

        private int comeToAfter(int come, int hour) {
            int more = come;
            for (int one = 0; one < people; one++) {
                if (has(come, one)) {
                    more |= callable[hour * MOST_PEOPLE + one];
                }
            }
            return more;
        }

        int upperEnd(int known, int hour, int hours) {
            int come = known & takingPart;
            int most = Integer.bitCount(come);
            for (int h = hour; h < hour + hours; h++) {
                come = comeToAfter(come, h);
                most = Math.min(2 * most, Integer.bitCount(come));
            }
            return most;
        }

        /** The k-th of the lowest rows by which it is done in the least hours; NONE: there is none. */
        int lowestRow(int known, int hour, int k) {
            int hours = leastHours(known, 0, hour);
            if (k >= hours) {
                return NONE;
            }
            markGood(hour, hours);
            int state = state(known, 0);
            int row = NONE;
            for (int gone = 0; gone <= k; gone++) {
                int i = lowestGood(state, hour + gone, gone + 1);
                if (i == NONE) {
                    return NONE;
                }
                row = rows.rows[i];
                state = stateAfter(state, rows.sets[i]);
            }
            return row;
        }

        private void markGood(int hour, int hours) {
            for (int place = 0; place < STATES; place++) {
                boolean ends = has(comeTo[place], hours) && isDone(knownIn(stateAt[place]));
                good[place] = ends ? 1 << hours : 0;
            }
            for (int gone = hours - 1; gone >= 1; gone--) {
                for (int place = 0; place < STATES; place++) {
                    if (has(comeTo[place], gone)
                            && lowestGood(stateAt[place], hour + gone, gone + 1) != NONE) {
                        good[place] |= 1 << gone;
                    }
                }
            }
        }

        /** The lowest row of an hour that comes to a good state; NONE: there is none. */
        private int lowestGood(int state, int hour, int hours) {
            findRows(state, hour, takingPart);
            for (int i = 0; i < rows.count; i++) {
                if (has(good[placeOf(stateAfter(state, rows.sets[i]))], hours)) {
                    return i;
                }
            }
            return NONE;
        }

        /** Whether there is a couple without a line; the one whose line would spare most is kept. */
        boolean findAdded(Valley valley, int news) {
            prepare(valley, news);
            int known = valley.knows[news];
            int without = hoursFromFirst(known);
            int best = NOT_DONE + 1;
            for (int a = 0; a < people; a++) {
                for (int b = a + 1; b < people; b++) {
                    if (valley.hasLineBetween(a, b)) {
                        continue;
                    }
                    prepare(valley, news);
                    openLine(a, b);
                    int hours = hoursFromFirst(known);
                    if (hours < best) {
                        best = hours;
                        addedA = a;
                        addedB = b;
                    }
                }
            }
            spared = without - best;
            return best <= NOT_DONE;
        }

        private int hoursFromFirst(int known) {
            int hours = leastHours(known, 0, 1);
            return hours == NONE ? NOT_DONE : hours;
        }

        /** Whether all tales of the news can come out so if this one alone knew it at first. */
        boolean canHaveBegun(Valley valley, int news, int first) {
            int lastTale = 0;
            for (int one = 0; one < people; one++) {
                int tale = valley.taleOf(news, one);
                if (tale == 0 && one != first || tale > 0 && one == first) {
                    return false;
                }
                lastTale = Math.max(lastTale, tale);
            }
            begin(1 << first, 0);
            int later = valley.whoHasTale(news) & ~(1 << first);
            for (int hour = 1; hour <= lastTale && nowCount > 0; hour++) {
                int due = valley.whoseTaleIs(news, hour);
                later &= ~due;
                for (int i = 0; i < nowCount; i++) {
                    spreadAsTold(now[i], hour, due, later);
                }
                swap();
            }
            return nowCount > 0;
        }

        /** Those who are due must know it by this hour, those whose tale is later must not yet. */
        private void spreadAsTold(int state, int hour, int due, int later) {
            int understands = understands(state);
            if ((due & ~understands) != 0) {
                return;
            }
            findRows(state, hour, takingPart & ~(later & understands));
            arriveByAll(state, hour, due);
        }
    }

    /** Finds the fewest lines to be down so that a news does not come to one. */
    private static final class Shutting {
        private Valley valley;
        private int goal;
        private int hour;
        private int before;
        // The lines by which the news came first to somebody.
        private int used;

        /** As bits; NONE: no lines can keep it off. */
        int fewestLines(Valley where, int news, int one, int fromHour) {
            valley = where;
            goal = one;
            hour = fromHour;
            before = flood(where.knows[news], 1, fromHour - 1, 0);
            if (has(before, one)) {
                return NONE;
            }
            for (int number = 0; number <= where.lineCount; number++) {
                int lines = choose(0, 0, number);
                if (lines != NONE) {
                    return lines;
                }
            }
            return NONE;
        }

        /** The lowest set of those down and so many more, from this line on, that keeps it off. */
        private int choose(int down, int first, int more) {
            boolean comes = has(flood(before, hour, LAST_HOUR, down), goal);
            if (more <= 0 || !comes) {
                return comes ? NONE : down;
            }
            // The last line must be one of those that bring it there.
            int worth = more == 1 ? used : -1;
            for (int line = first; line < valley.lineCount; line++) {
                if (has(worth, line)) {
                    int lines = choose(down | 1 << line, line + 1, more - 1);
                    if (lines != NONE) {
                        return lines;
                    }
                }
            }
            return NONE;
        }

        /** Who can be come to in these hours by lines that are open and not among those down. */
        private int flood(int known, int firstHour, int lastHour, int down) {
            int come = known;
            used = 0;
            for (int h = firstHour; h <= lastHour && !has(come, goal); h++) {
                int more = come;
                for (int line = 0; line < valley.lineCount; line++) {
                    int further = has(down, line) || !valley.isOpen(line, h) ? 0 : across(line, come);
                    if ((further & ~more) != 0) {
                        more |= further;
                        used |= 1 << line;
                    }
                }
                come = more;
            }
            return come;
        }

        private int across(int line, int come) {
            int further = has(come, valley.lineA(line)) ? 1 << valley.lineB(line) : 0;
            if (!valley.isOneWay(line) && has(come, valley.lineB(line))) {
                further |= 1 << valley.lineA(line);
            }
            return further;
        }
    }

    /** Everything to all by calls one behind the other. */
    private static final class Gossip {
        private static final int MOST_CALLS = 7;
        private static final int MOST = 5;

        private Valley valley;
        private int all;
        // What each one knows of the things of all.
        private final int[] knows = new int[MOST];

        static int lowerEnd(int people) {
            return people < 4 ? people * (people - 1) / 2 : 2 * people - 4;
        }

        static int upperEnd(int people) {
            return people < 4 ? people * (people - 1) / 2 : 2 * people - 3;
        }

        /** NONE: it can't be done, or there are too many people. */
        int fewestCalls(Valley where) {
            if (where.gossipLength == Valley.NOT_ASKED) {
                where.gossipLength = search(where);
            }
            return where.gossipLength;
        }

        private int search(Valley where) {
            if (where.people > MOST || !where.holdsTogether()) {
                return NONE;
            }
            valley = where;
            all = where.everyone();
            for (int calls = lowerEnd(where.people); calls <= upperEnd(where.people); calls++) {
                for (int one = 0; one < where.people; one++) {
                    knows[one] = 1 << one;
                }
                if (goOn(0, calls)) {
                    return calls;
                }
            }
            return NONE;
        }

        /** Whether all know all after so many calls; tries the lowest lines ahead. */
        private boolean goOn(int done, int calls) {
            if (!canEnd(calls - done)) {
                return false;
            }
            if (done >= calls || done >= MOST_CALLS) {
                return true;
            }
            for (int line = 0; line < valley.lineCount; line++) {
                int a = valley.lineA(line);
                int b = valley.lineB(line);
                int knewA = knows[a];
                int knewB = knows[b];
                // A call that tells nothing new could be left out of the row.
                if (valley.isOneWay(line) || knewA == knewB) {
                    continue;
                }
                knows[a] = knewA | knewB;
                knows[b] = knewA | knewB;
                valley.gossipLines[done] = line;
                if (goOn(done + 1, calls)) {
                    return true;
                }
                knows[a] = knewA;
                knows[b] = knewB;
            }
            return false;
        }

        /** Each call helps two people at most, and brings each thing to one more at most. */
        private boolean canEnd(int callsLeft) {
            int helpless = 0;
            for (int one = 0; one < valley.people; one++) {
                if (knows[one] != all) {
                    helpless++;
                }
                int without = 0;
                for (int other = 0; other < valley.people; other++) {
                    if (!has(knows[other], one)) {
                        without++;
                    }
                }
                if (without > callsLeft) {
                    return false;
                }
            }
            return helpless <= 2 * callsLeft;
        }
    }

    /**
     * Everything to all within some hours. A state has four bits for each of four people: whose things
     * that one knows. All know their own, so those bits do not count for a state's place.
     */
    private static final class Trade {
        private static final int MOST = 4;
        private static final int HOURS = 8;
        private static final int STATES = 4096;
        private static final int OWN = 0x8421;
        private static final int FAR = 1000;
        // The couples, so that the i-th and the i-th from the end have nobody in common.
        private static final int[] COUPLE_A = {0, 0, 0, 1, 1, 2};
        private static final int[] COUPLE_B = {1, 2, 3, 2, 3, 3};

        private int[] now = new int[STATES];
        private int[] next = new int[STATES];
        private final boolean[] open = new boolean[COUPLE_A.length];

        /** NONE: it can't be done. */
        int fewestCalls(Valley valley, int hours) {
            Arrays.fill(now, FAR);
            now[placeOf(OWN)] = 0;
            for (int hour = 1; hour <= hours; hour++) {
                lookAtLines(valley, hour);
                System.arraycopy(now, 0, next, 0, STATES);
                for (int place = 0; place < STATES; place++) {
                    if (now[place] < FAR) {
                        goOn(stateAt(place), now[place]);
                    }
                }
                int[] old = now;
                now = next;
                next = old;
            }
            int calls = now[placeOf(goal(valley))];
            return calls < FAR ? calls : NONE;
        }

        private void lookAtLines(Valley valley, int hour) {
            for (int i = 0; i < open.length; i++) {
                open[i] = false;
            }
            for (int line = 0; line < valley.lineCount; line++) {
                if (valley.isOneWay(line) || !valley.works(line, hour)) {
                    continue;
                }
                int a = Math.min(valley.lineA(line), valley.lineB(line));
                int b = Math.max(valley.lineA(line), valley.lineB(line));
                for (int i = 0; i < open.length; i++) {
                    if (COUPLE_A[i] == a && COUPLE_B[i] == b) {
                        open[i] = true;
                    }
                }
            }
        }

        private void goOn(int state, int calls) {
            for (int i = 0; i < open.length; i++) {
                if (!open[i]) {
                    continue;
                }
                int after = join(state, i);
                improve(after, calls + 1);
                int rest = open.length - 1 - i;
                if (open[rest]) {
                    improve(join(after, rest), calls + 2);
                }
            }
        }

        private void improve(int state, int calls) {
            int place = placeOf(state);
            next[place] = Math.min(next[place], calls);
        }

        private static int join(int state, int couple) {
            int shiftA = 4 * COUPLE_A[couple];
            int shiftB = 4 * COUPLE_B[couple];
            int both = (state >> shiftA | state >> shiftB) & 15;
            return state | both << shiftA | both << shiftB;
        }

        private static int goal(Valley valley) {
            int state = OWN;
            for (int one = 0; one < valley.people && one < MOST; one++) {
                state |= valley.everyone() << 4 * one;
            }
            return state;
        }

        private static int placeOf(int state) {
            return state >> 1 & 15 | (state >> 6 & 15) << 4 | (state >> 11 & 15) << 8;
        }

        private static int stateAt(int place) {
            return OWN | (place & 15) << 1 | (place >> 4 & 15) << 6 | (place >> 8 & 15) << 11;
        }
    }

    /** Calls along the cards that are kept, and those cards that a tree of lines makes. */
    private static final class Cards {
        private Valley valley;
        private int known;
        private int once;
        // How many on its card each one has called.
        private final int[] called = new int[MOST_PEOPLE];
        // Of the tree: those below each one, and all from the one who begins on, each behind the one
        // above it.
        private final int[] time = new int[MOST_PEOPLE];
        private final int[] children = new int[MOST_PEOPLE];
        private final int[] order = new int[MOST_PEOPLE];

        /** NONE: not by the last hour. */
        int hoursTillAllKnow(Valley where, int first) {
            valley = where;
            known = 1 << first;
            once = 0;
            Arrays.fill(called, 0);
            for (int hour = 0; hour <= LAST_HOUR; hour++) {
                if (hour > 0) {
                    callOn(hour);
                }
                if (known == where.everyone()) {
                    return hour;
                }
            }
            return NONE;
        }

        private void callOn(int hour) {
            int told = 0;
            for (int one = 0; one < valley.people; one++) {
                int other = has(known, one) ? valley.nextOnCard(one, called[one]) : NONE;
                if (other != NONE && has(valley.callable(one, hour), other) && !has(told, other)) {
                    told |= 1 << other;
                    called[one]++;
                }
            }
            int heard = told & ~known;
            known |= heard & (~valley.deaf | once);
            once |= heard;
        }

        /** False: the lines are no tree. */
        boolean growTree(Valley where, int first) {
            if (where.twoWayLines() != where.people - 1 || !where.holdsTogether()) {
                return false;
            }
            int met = 1 << first;
            int count = 1;
            order[0] = first;
            for (int i = 0; i < count && i < MOST_PEOPLE; i++) {
                int one = order[i];
                children[one] = where.neighbours(one) & ~met;
                met |= children[one];
                for (int other = 0; other < where.people; other++) {
                    if (has(children[one], other) && count < MOST_PEOPLE) {
                        order[count] = other;
                        count++;
                    }
                }
            }
            for (int i = count - 1; i >= 0; i--) {
                time[order[i]] = timeOf(order[i]);
            }
            return true;
        }

        private int timeOf(int one) {
            int most = 0;
            int left = children[one];
            for (int place = 1; left != 0 && place < MOST_PEOPLE; place++) {
                int other = slowest(left);
                most = Math.max(most, place + time[other]);
                left &= ~(1 << other);
            }
            return most;
        }

        /** The i-th on the card of one; NONE: there are not so many. */
        int below(int one, int i) {
            int left = children[one];
            for (int place = 0; left != 0 && place < MOST_PEOPLE; place++) {
                int other = slowest(left);
                if (place == i) {
                    return other;
                }
                left &= ~(1 << other);
            }
            return NONE;
        }

        private int slowest(int some) {
            int slowest = 0;
            int most = NONE;
            for (int one = 0; one < MOST_PEOPLE; one++) {
                if (has(some, one) && time[one] > most) {
                    most = time[one];
                    slowest = one;
                }
            }
            return slowest;
        }
    }

    /** Each one calls one of the others by chance. */
    private static final class Chance {
        private static final int MOST = 4;
        private static final int DRAWN_HOURS = 60;
        private static final long FACTOR = 6364136223846793005L;
        private static final long SUMMAND = 1442695040888963407L;

        // The choices so far that leave so many who know.
        private long[] now = new long[MOST + 1];
        private long[] next = new long[MOST + 1];

        long countWays(int people, int hours, int k) {
            Arrays.fill(now, 0L);
            now[1] = 1L;
            for (int hour = 1; hour <= hours; hour++) {
                Arrays.fill(next, 0L);
                for (int knowing = 1; knowing <= people; knowing++) {
                    if (now[knowing] != 0L) {
                        goOn(people, knowing);
                    }
                }
                long[] old = now;
                now = next;
                next = old;
            }
            return now[k];
        }

        /** Who knows is all alike, so the first ones do; what the rest choose only multiplies. */
        private void goOn(int people, int knowing) {
            long ofTheRest = power(people - 1, people - knowing);
            long choices = power(people - 1, knowing);
            for (long choice = 0L; choice < choices; choice++) {
                int known = (1 << knowing) - 1;
                long left = choice;
                for (int one = 0; one < knowing; one++) {
                    known |= 1 << other(one, (int) (left % Math.max(1, people - 1)));
                    left /= Math.max(1, people - 1);
                }
                int after = Integer.bitCount(known);
                if (after <= MOST) {
                    next[after] += now[knowing] * ofTheRest;
                }
            }
        }

        private static long power(int base, int exponent) {
            long product = 1L;
            for (int i = 0; i < exponent; i++) {
                product *= base;
            }
            return product;
        }

        /** The one with this place among all others. */
        private static int other(int one, int place) {
            return place < one ? place : place + 1;
        }

        static int drawHours(int people, int first, long seed) {
            int others = Math.max(1, people - 1);
            int everyone = (1 << people) - 1;
            int known = 1 << first;
            long x = seed;
            for (int hour = 1; hour <= DRAWN_HOURS; hour++) {
                int called = 0;
                for (int one = 0; one < people; one++) {
                    x = x * FACTOR + SUMMAND;
                    int place = (int) ((x >>> 33) % others);
                    if (has(known, one)) {
                        called |= 1 << other(one, place);
                    }
                }
                known |= called;
                if (known == everyone) {
                    return hour;
                }
            }
            return NONE;
        }
    }
}
