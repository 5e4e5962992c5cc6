import java.util.ArrayList;
import java.util.Collections;
import java.util.Comparator;
import java.util.List;
import java.util.TreeMap;

/**
 * The document a second time, by the most direct ways: all ORDERS, all sets, a reader that goes down
 * into the grammar. It shares nothing with the class, so that a slip in one of them shows.
 */
public final class Model {
    private static final int NONE = -1, UNKNOWN = -101, OUTSIDE = -102, STATE = -103, FULL = -104;

    private record Taker(int number, int sort, int pound, int amount, int rank, int[] took) { }

    private record Boat(int[] v, int load, int pace, int goods, int carrier, int miles, int to) { }

    private record Text(char act, int number, String condition, int[] days) { }

    private record Comer(boolean up, int from, int by) { }

    private final int[][] pounds = new int[8][];
    private final int[][] locks = new int[7][];
    private final List<Taker> takers = new ArrayList<>();
    private final List<Boat> boats = new ArrayList<>();
    private final List<Integer> billed = new ArrayList<>();
    private final StringBuilder page = new StringBuilder();
    private final List<Text> texts = new ArrayList<>();
    private final List<Comer> comers = new ArrayList<>();
    private final List<int[]> banks = new ArrayList<>();
    private final TreeMap<Integer, int[]> read = new TreeMap<>();
    private final int[] owed = new int[4];
    private final int[][] debts = new int[4][3];
    private final int[] told = new int[6];
    private final List<int[]> passed = new ArrayList<>();
    private final List<int[]> works = new ArrayList<>();
    private int top = 3;
    private int clock;
    private int asked;
    private int railway = 9;
    private long rained;
    private long lost;

    public Model() {
        for (int i = 0; i < 8; i++) {
            pounds[i] = new int[] {1000, 1000, 500};
        }
        for (int i = 0; i < 7; i++) {
            // LOCKFUL, SIDE, RULE, filled, KEPT, passed, FILLED
            locks[i] = new int[] {100, 0, 0, 0, 0, 0, 0};
        }
    }

    private static boolean out(int v, int least, int most) {
        return v < least || v > most;
    }

    public int pound(int pound, int what, int v) {
        if (out(pound, 0, 7) || out(what, 0, 2)) {
            return UNKNOWN;
        }
        int[] p = pounds[pound];
        if (what == 0 && (out(v, 0, 9999) || v > p[1])
                || what == 1 && (out(v, 100, 9999) || v < p[0])
                || what == 2 && out(v, 0, 9999)) {
            return OUTSIDE;
        }
        int was = p[what];
        p[what] = v;
        return was;
    }

    public int summit(int pound) {
        if (out(pound, 1, 6)) {
            return OUTSIDE;
        }
        if (clock != 0 || !boats.isEmpty()) {
            return STATE;
        }
        int was = top;
        top = pound;
        return was;
    }

    public int lock(int lock, int what, int v) {
        if (out(lock, 0, 6) || out(what, 0, 2)) {
            return UNKNOWN;
        }
        int[][] ranges = {{10, 200}, {0, 1}, {0, 2}};
        if (out(v, ranges[what][0], ranges[what][1])) {
            return OUTSIDE;
        }
        if (what < 2 && clock > 0) {
            return STATE;
        }
        int was = locks[lock][what];
        locks[lock][what] = v;
        return was;
    }

    public int taker(int sort, int pound, int amount, int rank) {
        if (out(pound, 0, 7)) {
            return UNKNOWN;
        }
        if (out(sort, 0, 4) || out(amount, 1, 200) || out(rank, 0, 9)) {
            return OUTSIDE;
        }
        if (takers.size() == 12) {
            return FULL;
        }
        takers.add(new Taker(takers.size(), sort, pound, amount, rank, new int[1]));
        return takers.size() - 1;
    }

    public int as(int taker, int sort) {
        if (out(taker, 0, takers.size() - 1)) {
            return UNKNOWN;
        }
        if (out(sort, 0, 4)) {
            return OUTSIDE;
        }
        int own = takers.get(taker).sort;
        boolean so = sort == 0 || sort == own || own == 4 && sort == 3;
        return so ? taker : NONE;
    }

    private int takes(Taker t, int hour) {
        int[] p = pounds[t.pound];
        return switch (t.sort) {
            case 0 -> t.amount;
            case 1 -> hour % 24 < 6 || hour % 24 > 17 ? 0 : t.amount;
            case 2 -> t.amount * p[0] / p[1];
            case 3 -> -t.amount;
            default -> -t.amount * 2;
        };
    }

    public int acts(int taker, int what, int hour) {
        if (out(taker, 0, takers.size() - 1)) {
            return -1001;
        }
        if (out(what, 0, 2) || out(hour, 0, 599)) {
            return -1002;
        }
        Taker t = takers.get(taker);
        int[] costs = {0, 3, 0, 1, 1 + t.amount / 10};
        return what == 0 ? takes(t, hour) : what == 1 ? costs[t.sort] : t.took[0];
    }

    public int boat(int from, int to, int load, int pace, int goods, int carrier) {
        if (out(from, 0, 7) || out(to, 0, 7) || from == to) {
            return UNKNOWN;
        }
        if (out(load, 0, 40) || out(pace, 1, 9) || out(goods, 0, 3) || out(carrier, 0, 3)) {
            return OUTSIDE;
        }
        if (boats.size() == 12) {
            return FULL;
        }
        int many = Math.max(from, to) - Math.min(from, to) + 1;
        // POUND, READY, waited
        boats.add(new Boat(new int[] {from, clock + pace, 0}, load, pace, goods, carrier, 5 * many, to));
        return boats.size() - 1;
    }

    public int hour(int rain) {
        if (out(rain, 0, 50)) {
            return OUTSIDE;
        }
        if (clock == 600) {
            return STATE;
        }
        for (int[] p : pounds) {
            p[0] += rain;
            rained += rain;
            weir(p);
        }
        List<Taker> order = new ArrayList<>(takers);
        order.sort(Comparator.comparingInt(Taker::rank).thenComparingInt(Taker::number));
        for (Taker t : order) {
            int[] p = pounds[t.pound];
            int much = takes(t, clock);
            if (much > p[0]) {
                much = p[0];
            }
            p[0] -= much;
            t.took[0] += much;
            weir(p);
        }
        int went = 0;
        List<Boat> gone = new ArrayList<>();
        for (int i = 0; i < 7; i++) {
            Boat b = chosen(i, gone);
            if (b != null && goThrough(i, b)) {
                gone.add(b);
                went++;
            }
        }
        for (Boat b : boats) {
            if (!gone.contains(b) && b.v[0] != b.to && b.v[1] <= clock) {
                b.v[2]++;
            }
        }
        clock++;
        return went;
    }

    private void weir(int[] p) {
        if (p[0] > p[1]) {
            lost += p[0] - p[1];
            p[0] = p[1];
        }
    }

    private boolean up(int lock, Boat b) {
        boolean right = b.v[0] == lock;
        boolean upperIsRight = lock + 1 <= top;
        return right == upperIsRight;
    }

    private Boat chosen(int lock, List<Boat> gone) {
        List<Boat> there = new ArrayList<>();
        for (Boat b : boats) {
            boolean beside = b.v[0] == lock && b.to > lock || b.v[0] == lock + 1 && b.to <= lock;
            if (beside && b.v[1] <= clock && !gone.contains(b)) {
                there.add(b);
            }
        }
        if (there.isEmpty()) {
            return null;
        }
        if (locks[lock][2] == 1) {
            int most = there.stream().mapToInt(Boat::load).max().orElse(0);
            return there.stream().filter(b -> b.load == most).findFirst().orElse(null);
        }
        if (locks[lock][2] == 2) {
            boolean filled = locks[lock][3] == 1;
            return there.stream().filter(b -> up(lock, b) ? !filled : filled).findFirst().orElse(there.get(0));
        }
        return there.get(0);
    }

    private boolean goThrough(int lock, Boat b) {
        int[] l = locks[lock];
        boolean up = up(lock, b);
        int next = b.v[0] == lock ? lock + 1 : lock;
        int[] upper = up ? pounds[next] : pounds[b.v[0]];
        int[] lower = up ? pounds[b.v[0]] : pounds[next];
        int half = l[0] / 2;
        if (up || l[3] == 0) {
            int kept = l[3] == 1 && l[1] == 1 ? half : l[4];
            if (upper[0] < l[0] - kept) {
                return false;
            }
        }
        if (pounds[next][0] < pounds[next][2] + 5 * b.load) {
            return false;
        }
        if (up) {
            if (l[3] == 1) {
                empty(l, lower);
            }
            fill(l, upper);
        } else {
            if (l[3] == 0) {
                fill(l, upper);
            }
            empty(l, lower);
        }
        l[5]++;
        b.v[0] = next;
        b.v[1] = clock + b.pace;
        return true;
    }

    private void fill(int[] l, int[] upper) {
        upper[0] -= l[0] - l[4];
        l[4] = 0;
        l[3] = 1;
        l[6]++;
    }

    private void empty(int[] l, int[] lower) {
        int much = l[0];
        while (l[1] == 1 && l[4] < l[0] / 2) {
            l[4]++;
            much--;
        }
        lower[0] += much;
        l[3] = 0;
        weir(lower);
    }

    public int hours(int n, int rain) {
        if (out(n, 1, 100) || out(rain, 0, 50)) {
            return OUTSIDE;
        }
        if (clock + n > 600) {
            return STATE;
        }
        int went = 0;
        for (int i = 0; i < n; i++) {
            went += hour(rain);
        }
        return went;
    }

    public int at(int boat, int what) {
        if (out(boat, 0, boats.size() - 1)) {
            return UNKNOWN;
        }
        Boat b = boats.get(boat);
        boolean come = b.v[0] == b.to;
        return switch (what) {
            case 0 -> b.v[0];
            case 1 -> come ? NONE : b.v[1];
            case 2 -> come ? 1 : 0;
            case 3 -> b.v[2];
            case 4 -> b.miles;
            default -> OUTSIDE;
        };
    }

    public int lockIs(int lock, int what) {
        return out(lock, 0, 6) ? UNKNOWN : out(what, 0, 3) ? OUTSIDE : locks[lock][3 + what];
    }

    public int now(int pound, int what) {
        return out(pound, 0, 7) ? UNKNOWN : out(what, 0, 2) ? OUTSIDE : pounds[pound][what];
    }

    public long sum(int what) {
        long all = 0;
        switch (what) {
            case 0:
                return rained;
            case 1:
                for (Taker t : takers) {
                    all += t.took[0];
                }
                return all < 0 ? 1000000 - all : all;
            case 2:
                return lost;
            case 3:
                for (int[] p : pounds) {
                    all += p[0];
                }
                return all;
            case 4:
                for (int[] l : locks) {
                    all += l[3] * l[0] + l[4];
                }
                return all;
            default:
                return -1;
        }
    }

    public int letters(long w) {
        StringBuilder more = new StringBuilder();
        boolean ended = false;
        for (long rest = w; rest != 0; rest >>>= 8) {
            int code = (int) (rest & 0xff);
            if (code > 126 || ended) {
                return OUTSIDE;
            }
            if (code == 0) {
                ended = true;
            } else {
                more.append((char) code);
            }
        }
        if (page.length() + more.length() > 60) {
            return FULL;
        }
        page.append(more);
        return page.length();
    }

    public int blank() {
        int had = page.length();
        page.setLength(0);
        return had;
    }

    /** Whether the letters are the beginning of some TEXT: tries a few ways to go on behind them. */
    private static boolean begins(String s) {
        String[] ends = {"", "T:1", ":1", "1", "l=1", "=1", "1"};
        for (String end : ends) {
            StringBuilder whole = new StringBuilder(s).append(end);
            for (int open = 0; open <= s.length(); open++) {
                if (new Reader(whole.toString()).isText()) {
                    return true;
                }
                whole.append(')');
            }
        }
        return false;
    }

    public int fault() {
        for (int i = 0; i < page.length(); i++) {
            if (!begins(page.substring(0, i + 1))) {
                return i;
            }
        }
        return page.length();
    }

    public int text() {
        String s = page.toString();
        if (!new Reader(s).isText()) {
            return STATE;
        }
        if (texts.size() == 16) {
            return FULL;
        }
        int mark = s.indexOf('?');
        int number = Integer.parseInt(mark < 0 ? s.substring(2) : s.substring(2, mark));
        texts.add(new Text(s.charAt(0), number, mark < 0 ? null : s.substring(mark + 1), new int[] {0, 99}));
        page.setLength(0);
        return texts.size() - 1;
    }

    /** Reads by the grammar: each method goes over what it names, or sets wrong. */
    private static final class Reader {
        private final String s;
        private int i;
        private boolean wrong;
        private int load;
        private int miles;
        private int goods;
        private int carrier;
        private int day;

        Reader(String s) {
            this.s = s;
        }

        private char look() {
            return i < s.length() ? s.charAt(i) : 0;
        }

        private boolean goOver(String some) {
            if (look() != 0 && some.indexOf(look()) >= 0) {
                i++;
                return true;
            }
            return false;
        }

        private int number(int most) {
            int from = i;
            while (i - from < most && goOver("0123456789")) {
                continue;
            }
            wrong |= i == from;
            return i == from ? 0 : Integer.parseInt(s.substring(from, i));
        }

        boolean isText() {
            wrong |= !goOver("TC");
            wrong |= !goOver(":");
            number(4);
            if (!wrong && goOver("?")) {
                condition();
            }
            return !wrong && i == s.length();
        }

        boolean condition() {
            boolean one = term();
            while (!wrong && goOver("|")) {
                one |= term();
            }
            return one;
        }

        private boolean term() {
            boolean all = factor();
            while (!wrong && goOver("&")) {
                all &= factor();
            }
            return all;
        }

        private boolean factor() {
            if (goOver("!")) {
                return !factor();
            }
            if (goOver("(")) {
                boolean inner = condition();
                wrong |= !goOver(")");
                return inner;
            }
            char name = look();
            wrong |= !goOver("lmgcd");
            char sign = look();
            wrong |= !goOver("<=>");
            if (wrong) {
                return false;
            }
            int value = switch (name) {
                case 'l' -> load;
                case 'm' -> miles;
                case 'g' -> goods;
                case 'c' -> carrier;
                default -> day;
            };
            int n = number(3);
            return sign == '<' ? value < n : sign == '>' ? value > n : value == n;
        }
    }

    public int force(int text, int from, int to) {
        if (out(text, 0, texts.size() - 1)) {
            return UNKNOWN;
        }
        if (out(from, 0, 99) || out(to, 0, 99) || to < from) {
            return OUTSIDE;
        }
        texts.get(text).days[0] = from;
        texts.get(text).days[1] = to;
        return 1;
    }

    private List<Integer> speaking(char act, int boat, int day) {
        List<Integer> all = new ArrayList<>();
        Boat b = boats.get(boat);
        for (int i = 0; i < texts.size(); i++) {
            Text t = texts.get(i);
            boolean so = t.condition == null;
            if (!so) {
                Reader r = new Reader(t.condition);
                r.load = b.load;
                r.miles = b.miles;
                r.goods = b.goods;
                r.carrier = b.carrier;
                r.day = day;
                so = r.condition();
            }
            if (so && t.act == act && t.days[0] <= day && day <= t.days[1]) {
                all.add(i);
            }
        }
        return all;
    }

    public int speaks(int act, int boat, int day) {
        if (out(act, 0, 1) || out(day, 0, 99)) {
            return OUTSIDE;
        }
        if (out(boat, 0, boats.size() - 1)) {
            return UNKNOWN;
        }
        List<Integer> all = speaking(act == 0 ? 'T' : 'C', boat, day);
        return all.isEmpty() ? NONE : all.get(all.size() - 1);
    }

    public int quarrel(int act, int boat, int day) {
        int who = speaks(act, boat, day);
        if (who < 0) {
            return who == NONE ? 0 : who;
        }
        int many = 0;
        for (int i : speaking(act == 0 ? 'T' : 'C', boat, day)) {
            many += texts.get(i).number != texts.get(who).number ? 1 : 0;
        }
        return many;
    }

    private int says(int act, int boat, int day) {
        int who = speaks(act, boat, day);
        return who == NONE ? 0 : texts.get(who).number;
    }

    public int toll(int boat, int day) {
        if (out(boat, 0, boats.size() - 1)) {
            return UNKNOWN;
        }
        if (out(day, 0, 99)) {
            return OUTSIDE;
        }
        return says(0, boat, day) * boats.get(boat).load * boats.get(boat).miles;
    }

    public int comer(boolean up, int from, int by) {
        if (out(from, 0, 23) || out(by, 0, 99)) {
            return OUTSIDE;
        }
        if (comers.size() == 8) {
            return FULL;
        }
        comers.add(new Comer(up, from, by));
        return comers.size() - 1;
    }

    public int clear() {
        int were = comers.size();
        comers.clear();
        return were;
    }

    /** Number of FILLINGS, hour of the last; or null and the place of the first that is late. */
    private int[] run(List<Integer> order, int[] late) {
        int hour = -1;
        int fillings = 0;
        boolean filled = false;
        for (int i = 0; i < order.size(); i++) {
            Comer c = comers.get(order.get(i));
            hour++;
            while (hour < c.from) {
                hour++;
            }
            if (hour > c.by) {
                late[0] = i;
                return null;
            }
            if (c.up || !filled) {
                fillings++;
            }
            filled = c.up;
        }
        return new int[] {fillings, hour};
    }

    private void tryAll(List<Integer> order, int[][] best, List<Integer> bestOrder) {
        if (order.size() == comers.size()) {
            int[] got = run(order, new int[1]);
            if (got != null && (best[0] == null || got[0] < best[0][0]
                    || got[0] == best[0][0] && got[1] < best[0][1])) {
                best[0] = got;
                bestOrder.clear();
                bestOrder.addAll(order);
            }
            return;
        }
        for (int c = 0; c < comers.size(); c++) {
            if (!order.contains(c)) {
                order.add(c);
                tryAll(order, best, bestOrder);
                order.remove(order.size() - 1);
            }
        }
    }

    public int turn(int what) {
        if (what != 0 && what != 1 && out(what, 10, 17)) {
            return OUTSIDE;
        }
        if (asked == 20) {
            return STATE;
        }
        asked++;
        int[][] best = new int[1][];
        List<Integer> order = new ArrayList<>();
        tryAll(new ArrayList<>(), best, order);
        if (best[0] == null) {
            return NONE;
        }
        return what < 2 ? best[0][what] : what - 10 < order.size() ? order.get(what - 10) : NONE;
    }

    public int judge(int order) {
        if (comers.isEmpty()) {
            return STATE;
        }
        if (order < 0) {
            return OUTSIDE;
        }
        List<Integer> list = new ArrayList<>();
        int rest = order;
        for (int i = 0; i < comers.size(); i++) {
            list.add(0, rest % 8);
            rest /= 8;
        }
        List<Integer> sorted = new ArrayList<>(list);
        Collections.sort(sorted);
        for (int i = 0; i < sorted.size(); i++) {
            if (sorted.get(i) != i) {
                return OUTSIDE;
            }
        }
        if (rest != 0) {
            return OUTSIDE;
        }
        int[] late = new int[1];
        int[] got = run(list, late);
        return got == null ? -1000 - late[0] : got[0];
    }

    public int dry(int which, int leastUse, int mostUse, int leastCome, int mostCome) {
        if (out(which, 0, 1) || out(leastUse, 0, 9999) || out(mostUse, 0, 9999)
                || out(leastCome, 0, 9999) || out(mostCome, 0, 9999)
                || leastUse > mostUse || leastCome > mostCome) {
            return OUTSIDE;
        }
        int low = pounds[top][0];
        int high = low;
        for (int day = 0; day < 400; day++) {
            low = Math.min(pounds[top][1], Math.max(0, low - mostUse) + leastCome);
            high = Math.min(pounds[top][1], Math.max(0, high - leastUse) + mostCome);
            if ((which == 0 ? low : high) < pounds[top][2]) {
                return day;
            }
        }
        return NONE;
    }

    public int bank(int pound, int amount) {
        if (out(pound, 0, 7)) {
            return UNKNOWN;
        }
        if (out(amount, 1, 999)) {
            return OUTSIDE;
        }
        if (banks.size() == 10) {
            return FULL;
        }
        banks.add(new int[] {pound, amount});
        return banks.size() - 1;
    }

    public int read(int pound, int fell, int miss) {
        if (out(pound, 0, 7)) {
            return UNKNOWN;
        }
        if (out(fell, 0, 9999) || out(miss, 0, 99)) {
            return OUTSIDE;
        }
        read.put(pound, new int[] {fell, miss});
        return 1;
    }

    public int unread() {
        int were = read.size();
        read.clear();
        return were;
    }

    public int find(int what) {
        if (out(what, 0, 1)) {
            return OUTSIDE;
        }
        for (int size = 0; size <= banks.size(); size++) {
            List<Integer> sets = new ArrayList<>();
            for (int set = 0; set < 1 << banks.size(); set++) {
                if (Integer.bitCount(set) == size && explains(set)) {
                    sets.add(set);
                }
            }
            if (!sets.isEmpty()) {
                return what == 0 ? sets.get(0) : sets.size() - 1;
            }
        }
        return NONE;
    }

    private boolean explains(int set) {
        for (int pound : read.keySet()) {
            int leaks = 0;
            for (int i = 0; i < banks.size(); i++) {
                leaks += (set & 1 << i) != 0 && banks.get(i)[0] == pound ? banks.get(i)[1] : 0;
            }
            int[] r = read.get(pound);
            if (leaks < r[0] - r[1] || leaks > r[0] + r[1]) {
                return false;
            }
        }
        return true;
    }

    public int bill(int boat, int day) {
        int toll = toll(boat, day);
        if (toll < 0) {
            return toll;
        }
        if (billed.contains(boat)) {
            return STATE;
        }
        int carrier = boats.get(boat).carrier;
        if (owed[carrier] + toll > says(1, boat, day)) {
            return NONE;
        }
        billed.add(boat);
        owed[carrier] += toll;
        return owed[carrier];
    }

    public int pay(int carrier, int v) {
        if (out(carrier, 0, 3)) {
            return UNKNOWN;
        }
        if (out(v, 0, 999999)) {
            return OUTSIDE;
        }
        owed[carrier] = v > owed[carrier] ? 0 : owed[carrier] - v;
        return owed[carrier];
    }

    public int debt(int carrier, int rank, int v) {
        if (out(carrier, 0, 3) || out(rank, 0, 2)) {
            return UNKNOWN;
        }
        if (out(v, 0, 9999)) {
            return OUTSIDE;
        }
        int was = debts[carrier][rank];
        debts[carrier][rank] = v;
        return was;
    }

    public int failed(int carrier, int there) {
        if (out(carrier, 0, 3)) {
            return UNKNOWN;
        }
        if (out(there, 0, 99999)) {
            return OUTSIDE;
        }
        int[] gets = new int[4];
        int left = there;
        for (int rank = 0; rank < 3 && left > 0; rank++) {
            int all = 0;
            for (int[] d : debts) {
                all += d[rank];
            }
            if (all <= left) {
                for (int i = 0; i < 4; i++) {
                    gets[i] += debts[i][rank];
                }
                left -= all;
                continue;
            }
            int there2 = left;
            for (int i = 0; i < 4; i++) {
                int part = (int) ((long) there2 * debts[i][rank] / all);
                gets[i] += part;
                left -= part;
            }
            for (int i = 0; left > 0; i = (i + 1) % 4) {
                if (debts[i][rank] > 0) {
                    gets[i]++;
                    left--;
                }
            }
        }
        return gets[carrier];
    }

    public int shares(int holder, int v) {
        if (out(holder, 0, 5)) {
            return UNKNOWN;
        }
        if (out(v, 0, 999)) {
            return OUTSIDE;
        }
        if (!passed.isEmpty()) {
            return STATE;
        }
        int were = told[holder];
        told[holder] = v;
        return were;
    }

    public int pass(int a, int b, int many, int day) {
        if (out(a, 0, 5) || out(b, 0, 5) || a == b) {
            return UNKNOWN;
        }
        int latest = passed.isEmpty() ? 0 : passed.get(passed.size() - 1)[3];
        if (out(many, 1, 999) || out(day, 0, 99) || day < latest) {
            return OUTSIDE;
        }
        if (had(a, 99) < many) {
            return STATE;
        }
        if (passed.size() == 24) {
            return FULL;
        }
        passed.add(new int[] {a, b, many, day});
        return passed.size();
    }

    public int had(int holder, int day) {
        if (out(holder, 0, 5)) {
            return UNKNOWN;
        }
        if (out(day, 0, 99)) {
            return OUTSIDE;
        }
        int[] all = told.clone();
        for (int[] p : passed) {
            if (p[3] <= day) {
                all[p[0]] -= p[2];
                all[p[1]] += p[2];
            }
        }
        return all[holder];
    }

    public int dividend(int holder, int coin, int day) {
        if (out(holder, 0, 5)) {
            return UNKNOWN;
        }
        if (out(coin, 0, 999999) || out(day, 0, 99)) {
            return OUTSIDE;
        }
        long all = 0;
        for (int i = 0; i < 6; i++) {
            all += had(i, day);
        }
        if (all == 0) {
            return STATE;
        }
        long total = all;
        long left = coin;
        long[] gets = new long[6];
        List<Integer> order = new ArrayList<>();
        for (int i = 0; i < 6; i++) {
            gets[i] = (long) coin * had(i, day) / all;
            left -= gets[i];
            order.add(i);
        }
        order.sort(Comparator.comparingLong(i -> -((long) coin * had(i, day) % total)));
        for (int i = 0; i < left; i++) {
            gets[order.get(i)]++;
        }
        return (int) gets[holder];
    }

    public int rate(int v) {
        if (out(v, 0, 999)) {
            return OUTSIDE;
        }
        int was = railway;
        railway = v;
        return was;
    }

    public int over(int pence) {
        if (out(pence, 0, 99)) {
            return OUTSIDE;
        }
        int bits = 0;
        for (int i = 0; i < boats.size(); i++) {
            Boat b = boats.get(i);
            bits += railway * b.load * b.miles / 10 < pence * b.load * b.miles ? 1 << i : 0;
        }
        return bits;
    }

    public int bestPence(int what) {
        if (out(what, 0, 1)) {
            return OUTSIDE;
        }
        int[] best = {-1, -1};
        for (int pence = 0; pence < 100; pence++) {
            int gone = over(pence);
            int brings = 0;
            for (int i = 0; i < boats.size(); i++) {
                brings += (gone >> i) % 2 == 0 ? pence * boats.get(i).load * boats.get(i).miles : 0;
            }
            if (brings > best[1]) {
                best = new int[] {pence, brings};
            }
        }
        return best[what];
    }

    public int work(int cost, int gives, int needs) {
        if (needs != NONE && out(needs, 0, works.size() - 1)) {
            return UNKNOWN;
        }
        if (out(cost, 1, 999) || out(gives, 0, 999)) {
            return OUTSIDE;
        }
        if (works.size() == 8) {
            return FULL;
        }
        works.add(new int[] {cost, gives, needs});
        return works.size() - 1;
    }

    public int plan(int coin, int what) {
        if (out(coin, 0, 9999) || out(what, 0, 2)) {
            return OUTSIDE;
        }
        List<int[]> plans = new ArrayList<>();
        for (int set = 0; set < 1 << works.size(); set++) {
            int[] plan = {set, 0, 0};
            boolean whole = true;
            for (int i = 0; i < works.size(); i++) {
                int[] w = works.get(i);
                if ((set >> i & 1) == 1) {
                    plan[1] += w[1];
                    plan[2] += w[0];
                    whole &= w[2] == NONE || (set >> w[2] & 1) == 1;
                }
            }
            if (whole && plan[2] <= coin) {
                plans.add(plan);
            }
        }
        plans.sort(Comparator.<int[]>comparingInt(p -> -p[1]).thenComparingInt(p -> p[2]).thenComparingInt(p -> p[0]));
        return plans.get(0)[what];
    }

    public int count(int what) {
        int come = 0;
        for (Boat b : boats) {
            come += b.v[0] == b.to ? 1 : 0;
        }
        int[] all = {clock, takers.size(), boats.size(), come, texts.size(), comers.size(), banks.size(),
            read.size(), passed.size(), works.size(), page.length(), asked};
        return out(what, 0, 11) ? OUTSIDE : all[what];
    }

    public long digest() {
        List<Long> all = new ArrayList<>();
        put(all, top);
        for (int[] p : pounds) {
            put(all, p);
        }
        for (int[] l : locks) {
            put(all, l);
        }
        for (Taker t : takers) {
            put(all, t.sort, t.pound, t.amount, t.rank, t.took[0]);
        }
        for (int i = 0; i < boats.size(); i++) {
            Boat b = boats.get(i);
            put(all, at(i, 0), at(i, 1), at(i, 2), at(i, 3), at(i, 4), b.load, b.goods, b.carrier);
        }
        for (int i = 0; i < 5; i++) {
            all.add(sum(i));
        }
        for (Text t : texts) {
            put(all, t.days[0], t.days[1], t.number);
        }
        for (Comer c : comers) {
            put(all, c.up ? 1 : 0, c.from, c.by);
        }
        for (int[] b : banks) {
            put(all, b);
        }
        for (int[] r : read.values()) {
            put(all, r);
        }
        put(all, owed);
        for (int[] d : debts) {
            put(all, d);
        }
        for (int i = 0; i < 6; i++) {
            put(all, had(i, 99));
        }
        put(all, railway);
        for (int[] w : works) {
            put(all, w);
        }
        page.chars().forEach(c -> put(all, c));
        for (int i = 0; i < 12; i++) {
            put(all, count(i));
        }
        long h = 283;
        for (long v : all) {
            h = 31 * h + v;
        }
        return h;
    }

    private static void put(List<Long> all, int... numbers) {
        for (int n : numbers) {
            all.add((long) n);
        }
    }
}
