import java.util.Arrays;

/** A canal and the company that keeps it; the words in capitals are the document's own. */
public final class CanalCompany {
    public static final int NONE = -1, UNKNOWN = -101, OUTSIDE = -102, STATE = -103, FULL = -104;

    // acts() may answer NONE and its like as amounts, so that its refusals lie further down.
    private static final int ACTS_UNKNOWN = -1001, ACTS_OUTSIDE = -1002;
    private static final int SUM_OUTSIDE = -1;
    private static final long BELOW_NOTHING = 1000000;
    private static final int TARDY = -1000;
    private static final int DIGEST_START = 283;

    private static final int POUNDS = 8, LOCKS = POUNDS - 1;
    private static final int CARRIERS = 4, RANKS = 3, HOLDERS = 6;
    private static final int LAST_HOUR = 600, LAST_DAY = 99, DRY_DAYS = 400;
    private static final int MOST_WATER = 9999;
    private static final int MOST_PENCE = 99;
    private static final int COUNTS = 12, SUMS = 5;

    private final Line line;
    private final Book book;
    private final Turns turns;
    private final Banks banks;
    private final Money money;
    private final Works works;

    public CanalCompany() {
        line = new Line();
        book = new Book();
        turns = new Turns();
        banks = new Banks();
        money = new Money();
        works = new Works();
    }

    // ---- the line

    public int pound(int pound, int what, int v) {
        Pound p = line.poundNumbered(pound);
        if (p == null || !within(what, 0, 2)) {
            return UNKNOWN;
        }
        return p.allows(what, v) ? p.replace(what, v) : OUTSIDE;
    }

    public int summit(int pound) {
        if (!within(pound, 1, POUNDS - 2)) {
            return OUTSIDE;
        }
        if (line.hoursGone > 0 || line.boatCount > 0) {
            return STATE;
        }
        int was = line.summit;
        line.summit = pound;
        return was;
    }

    public int lock(int lock, int what, int v) {
        Lock l = line.lockNumbered(lock);
        if (l == null || !within(what, 0, 2)) {
            return UNKNOWN;
        }
        if (!l.allows(what, v)) {
            return OUTSIDE;
        }
        if (what != Lock.RULE && line.hoursGone > 0) {
            return STATE;
        }
        return l.replace(what, v);
    }

    public int taker(int sort, int pound, int amount, int rank) {
        if (line.poundNumbered(pound) == null) {
            return UNKNOWN;
        }
        if (!within(sort, 0, Taker.LAST_SORT) || !within(amount, 1, 200) || !within(rank, 0, 9)) {
            return OUTSIDE;
        }
        if (line.takerCount >= Line.MOST_TAKERS) {
            return FULL;
        }
        return line.addTaker(new Taker(sort, pound, amount, rank));
    }

    public int as(int taker, int sort) {
        Taker t = line.takerNumbered(taker);
        if (t == null) {
            return UNKNOWN;
        }
        if (!within(sort, 0, Taker.LAST_SORT)) {
            return OUTSIDE;
        }
        return t.isA(sort) ? taker : NONE;
    }

    public int acts(int taker, int what, int hour) {
        Taker t = line.takerNumbered(taker);
        if (t == null) {
            return ACTS_UNKNOWN;
        }
        if (!within(what, 0, 2) || !within(hour, 0, LAST_HOUR - 1)) {
            return ACTS_OUTSIDE;
        }
        if (what == 0) {
            return line.wantedBy(t, hour);
        }
        return what == 1 ? t.cost() : t.took;
    }

    public int boat(int from, int to, int load, int pace, int goods, int carrier) {
        if (line.poundNumbered(from) == null || line.poundNumbered(to) == null || from == to) {
            return UNKNOWN;
        }
        if (!within(load, 0, 40) || !within(pace, 1, 9)
                || !within(goods, 0, 3) || !within(carrier, 0, CARRIERS - 1)) {
            return OUTSIDE;
        }
        if (line.boatCount >= Line.MOST_BOATS) {
            return FULL;
        }
        return line.addBoat(new Boat(from, to, load, pace, goods, carrier));
    }

    public int hour(int rain) {
        return hours(1, rain);
    }

    public int hours(int n, int rain) {
        if (!within(n, 1, 100) || !within(rain, 0, 50)) {
            return OUTSIDE;
        }
        if (line.hoursGone + n > LAST_HOUR) {
            return STATE;
        }
        int went = 0;
        for (int i = 0; i < n; i++) {
            went += line.goByAnHour(rain);
        }
        return went;
    }

    public int at(int boat, int what) {
        Boat b = line.boatNumbered(boat);
        if (b == null) {
            return UNKNOWN;
        }
        return within(what, 0, 4) ? b.tell(what) : OUTSIDE;
    }

    public int lockIs(int lock, int what) {
        Lock l = line.lockNumbered(lock);
        if (l == null) {
            return UNKNOWN;
        }
        return within(what, 0, 3) ? l.standing(what) : OUTSIDE;
    }

    public int now(int pound, int what) {
        Pound p = line.poundNumbered(pound);
        if (p == null) {
            return UNKNOWN;
        }
        return within(what, 0, 2) ? p.tell(what) : OUTSIDE;
    }

    public long sum(int what) {
        switch (what) {
            case 0:
                return line.rain;
            case 1:
                long taken = line.takenInAll();
                return taken < 0 ? BELOW_NOTHING - taken : taken;
            case 2:
                return line.lost;
            case 3:
                return line.inPounds();
            case 4:
                return line.inLocks();
            default:
                return SUM_OUTSIDE;
        }
    }

    // ---- texts

    public int letters(long w) {
        int many = Book.lettersIn(w);
        if (many < 0) {
            return OUTSIDE;
        }
        if (book.pageLength + many > Book.MOST_LETTERS) {
            return FULL;
        }
        book.write(w, many);
        return book.pageLength;
    }

    public int blank() {
        int had = book.pageLength;
        book.pageLength = 0;
        return had;
    }

    public int fault() {
        return book.firstFault();
    }

    public int text() {
        if (!book.pageIsText()) {
            return STATE;
        }
        return book.takeText();
    }

    public int force(int text, int from, int to) {
        Text t = book.textNumbered(text);
        if (t == null) {
            return UNKNOWN;
        }
        if (!within(from, 0, LAST_DAY) || !within(to, from, LAST_DAY)) {
            return OUTSIDE;
        }
        t.from = from;
        t.to = to;
        return 1;
    }

    public int speaks(int act, int boat, int day) {
        if (!within(act, 0, 1) || !within(day, 0, LAST_DAY)) {
            return OUTSIDE;
        }
        Boat b = line.boatNumbered(boat);
        return b == null ? UNKNOWN : book.speaker(act, b, day);
    }

    public int quarrel(int act, int boat, int day) {
        if (!within(act, 0, 1) || !within(day, 0, LAST_DAY)) {
            return OUTSIDE;
        }
        Boat b = line.boatNumbered(boat);
        return b == null ? UNKNOWN : book.quarrelling(act, b, day);
    }

    public int toll(int boat, int day) {
        Boat b = line.boatNumbered(boat);
        if (b == null) {
            return UNKNOWN;
        }
        return within(day, 0, LAST_DAY) ? book.says(Text.TOLL, b, day) * b.tonMiles() : OUTSIDE;
    }

    // ---- turns

    public int comer(boolean up, int from, int by) {
        if (!within(from, 0, 23) || !within(by, 0, 99)) {
            return OUTSIDE;
        }
        return turns.add(up, from, by);
    }

    public int clear() {
        return turns.removeAll();
    }

    public int turn(int what) {
        if (!within(what, 0, 1) && !within(what, 10, 17)) {
            return OUTSIDE;
        }
        if (turns.asked >= Turns.MOST_ASKED) {
            return STATE;
        }
        turns.asked++;
        turns.solve();
        if (what == 0) {
            return turns.bestFillings;
        }
        return what == 1 ? turns.bestLast : turns.bestAt(what - 10);
    }

    public int judge(int order) {
        if (turns.count == 0) {
            return STATE;
        }
        return turns.isOrder(order) ? turns.fillingsOf(order) : OUTSIDE;
    }

    public int dry(int which, int leastUse, int mostUse, int leastCome, int mostCome) {
        boolean known = within(which, 0, 1)
                && within(leastUse, 0, mostUse) && within(mostUse, 0, MOST_WATER)
                && within(leastCome, 0, mostCome) && within(mostCome, 0, MOST_WATER);
        if (!known) {
            return OUTSIDE;
        }
        Pound top = line.pounds[line.summit];
        return which == 0 ? top.firstDryDay(mostUse, leastCome) : top.firstDryDay(leastUse, mostCome);
    }

    // ---- banks

    public int bank(int pound, int amount) {
        if (line.poundNumbered(pound) == null) {
            return UNKNOWN;
        }
        return within(amount, 1, 999) ? banks.add(pound, amount) : OUTSIDE;
    }

    public int read(int pound, int fell, int miss) {
        if (line.poundNumbered(pound) == null) {
            return UNKNOWN;
        }
        if (!within(fell, 0, MOST_WATER) || !within(miss, 0, 99)) {
            return OUTSIDE;
        }
        banks.note(pound, fell, miss);
        return 1;
    }

    public int unread() {
        int were = banks.readings();
        banks.forget();
        return were;
    }

    public int find(int what) {
        if (!within(what, 0, 1)) {
            return OUTSIDE;
        }
        banks.search();
        return what == 0 || banks.fewest == NONE ? banks.fewest : banks.rivals;
    }

    // ---- money

    public int bill(int boat, int day) {
        Boat b = line.boatNumbered(boat);
        if (b == null) {
            return UNKNOWN;
        }
        if (!within(day, 0, LAST_DAY)) {
            return OUTSIDE;
        }
        if (b.billed) {
            return STATE;
        }
        int owed = money.owed[b.carrier] + book.says(Text.TOLL, b, day) * b.tonMiles();
        if (owed > book.says(Text.CREDIT, b, day)) {
            return NONE;
        }
        b.billed = true;
        money.owed[b.carrier] = owed;
        return owed;
    }

    public int pay(int carrier, int v) {
        if (!within(carrier, 0, CARRIERS - 1)) {
            return UNKNOWN;
        }
        if (!within(v, 0, 999999)) {
            return OUTSIDE;
        }
        money.owed[carrier] = Math.max(0, money.owed[carrier] - v);
        return money.owed[carrier];
    }

    public int debt(int carrier, int rank, int v) {
        if (!within(carrier, 0, CARRIERS - 1) || !within(rank, 0, RANKS - 1)) {
            return UNKNOWN;
        }
        return within(v, 0, 9999) ? money.replaceDebt(carrier, rank, v) : OUTSIDE;
    }

    public int failed(int carrier, int there) {
        if (!within(carrier, 0, CARRIERS - 1)) {
            return UNKNOWN;
        }
        return within(there, 0, 99999) ? money.paidTo(carrier, there) : OUTSIDE;
    }

    public int shares(int holder, int v) {
        if (!within(holder, 0, HOLDERS - 1)) {
            return UNKNOWN;
        }
        if (!within(v, 0, 999)) {
            return OUTSIDE;
        }
        if (money.passCount > 0) {
            return STATE;
        }
        int were = money.told[holder];
        money.told[holder] = v;
        return were;
    }

    public int pass(int a, int b, int many, int day) {
        if (!within(a, 0, HOLDERS - 1) || !within(b, 0, HOLDERS - 1) || a == b) {
            return UNKNOWN;
        }
        if (!within(many, 1, 999) || !within(day, money.latestDay(), LAST_DAY)) {
            return OUTSIDE;
        }
        if (money.held(a, LAST_DAY) < many) {
            return STATE;
        }
        return money.addPass(a, b, many, day);
    }

    public int had(int holder, int day) {
        if (!within(holder, 0, HOLDERS - 1)) {
            return UNKNOWN;
        }
        return within(day, 0, LAST_DAY) ? money.held(holder, day) : OUTSIDE;
    }

    public int dividend(int holder, int coin, int day) {
        if (!within(holder, 0, HOLDERS - 1)) {
            return UNKNOWN;
        }
        if (!within(coin, 0, 999999) || !within(day, 0, LAST_DAY)) {
            return OUTSIDE;
        }
        int all = money.allShares();
        return all == 0 ? STATE : money.partOf(holder, coin, day, all);
    }

    public int rate(int v) {
        if (!within(v, 0, 999)) {
            return OUTSIDE;
        }
        int was = money.rate;
        money.rate = v;
        return was;
    }

    public int over(int pence) {
        if (!within(pence, 0, MOST_PENCE)) {
            return OUTSIDE;
        }
        int bits = 0;
        for (int i = 0; i < line.boatCount; i++) {
            if (money.goesOver(line.boats[i], pence)) {
                bits |= 1 << i;
            }
        }
        return bits;
    }

    public int bestPence(int what) {
        if (!within(what, 0, 1)) {
            return OUTSIDE;
        }
        int best = 0;
        int brings = 0;
        for (int pence = 1; pence <= MOST_PENCE; pence++) {
            int tolls = tollsKept(pence);
            if (tolls > brings) {
                best = pence;
                brings = tolls;
            }
        }
        return what == 0 ? best : brings;
    }

    private int tollsKept(int pence) {
        int tolls = 0;
        for (int i = 0; i < line.boatCount; i++) {
            Boat b = line.boats[i];
            if (!money.goesOver(b, pence)) {
                tolls += pence * b.tonMiles();
            }
        }
        return tolls;
    }

    public int work(int cost, int gives, int needs) {
        if (!within(needs, NONE, works.count - 1)) {
            return UNKNOWN;
        }
        if (!within(cost, 1, 999) || !within(gives, 0, 999)) {
            return OUTSIDE;
        }
        return works.add(cost, gives, needs);
    }

    public int plan(int coin, int what) {
        if (!within(coin, 0, 9999) || !within(what, 0, 2)) {
            return OUTSIDE;
        }
        int set = works.bestSet(coin);
        if (what == 0) {
            return set;
        }
        return what == 1 ? works.given(set) : works.costOf(set);
    }

    // ---- what is told

    public int count(int what) {
        switch (what) {
            case 0:
                return line.hoursGone;
            case 1:
                return line.takerCount;
            case 2:
                return line.boatCount;
            case 3:
                return line.boatsThere();
            case 4:
                return book.textCount;
            case 5:
                return turns.count;
            case 6:
                return banks.count;
            case 7:
                return banks.readings();
            case 8:
                return money.passCount;
            case 9:
                return works.count;
            case 10:
                return book.pageLength;
            case 11:
                return turns.asked;
            default:
                return OUTSIDE;
        }
    }

    public long digest() {
        long h = line.addTo(DIGEST_START);
        for (int i = 0; i < SUMS; i++) {
            h = mix(h, sum(i));
        }
        h = book.addTextsTo(h);
        h = turns.addTo(h);
        h = banks.addTo(h);
        h = money.addTo(h);
        h = works.addTo(h);
        h = book.addPageTo(h);
        for (int i = 0; i < COUNTS; i++) {
            h = mix(h, count(i));
        }
        return h;
    }

    private static long mix(long h, long v) {
        return 31 * h + v;
    }

    private static boolean within(int v, int least, int most) {
        return v >= least && v <= most;
    }

    private static boolean hasBit(int set, int bit) {
        return (set >> bit & 1) != 0;
    }

    /** The water of one POUND. */
    private static final class Pound {
        static final int WATER = 0, TOP = 1;

        int water = 1000;
        int full = 1000;
        int least = 500;

        boolean allows(int what, int v) {
            if (what == WATER) {
                return within(v, 0, full);
            }
            return within(v, what == TOP ? Math.max(100, water) : 0, MOST_WATER);
        }

        int tell(int what) {
            if (what == WATER) {
                return water;
            }
            return what == TOP ? full : least;
        }

        int replace(int what, int v) {
            int was = tell(what);
            if (what == WATER) {
                water = v;
            } else if (what == TOP) {
                full = v;
            } else {
                least = v;
            }
            return was;
        }

        /** What stands above FULL goes over the weir: how much that was. */
        int spill() {
            int above = Math.max(0, water - full);
            water -= above;
            return above;
        }

        /** The first DAY at whose end it is below LEAST, if each DAY uses and brings the same. */
        int firstDryDay(int use, int come) {
            int level = water;
            for (int day = 0; day < DRY_DAYS; day++) {
                level = Math.min(full, Math.max(0, level - use) + come);
                if (level < least) {
                    return day;
                }
            }
            return NONE;
        }
    }

    /** One LOCK with its SIDE. */
    private static final class Lock {
        static final int SIZE = 0, SIDE = 1, RULE = 2;
        static final int HEAVIEST_FIRST = 1, STANDING_RIGHT_FIRST = 2;

        int lockful = 100;
        boolean side;
        int rule;
        boolean filled;
        int kept;
        int passed;
        int fillings;

        boolean allows(int what, int v) {
            if (what == SIZE) {
                return within(v, 10, 200);
            }
            return within(v, 0, what == SIDE ? 1 : 2);
        }

        int tell(int what) {
            if (what == SIZE) {
                return lockful;
            }
            return what == SIDE ? (side ? 1 : 0) : rule;
        }

        int replace(int what, int v) {
            int was = tell(what);
            if (what == SIZE) {
                lockful = v;
            } else if (what == SIDE) {
                side = v == 1;
            } else {
                rule = v;
            }
            return was;
        }

        int standing(int what) {
            switch (what) {
                case 0:
                    return filled ? 1 : 0;
                case 1:
                    return kept;
                case 2:
                    return passed;
                default:
                    return fillings;
            }
        }

        int holds() {
            return filled ? lockful + kept : kept;
        }

        /** What goes into the SIDE, if the LOCK is EMPTIED now. */
        private int keepable() {
            return side ? Math.max(0, lockful / 2 - kept) : 0;
        }

        /** What one BOAT's going would take of the UPPER POUND. */
        int draws(boolean up) {
            if (!filled) {
                return lockful - kept;
            }
            return up ? lockful - kept - keepable() : 0;
        }

        /** A BOAT goes: what is LOST over the lower POUND's weir. */
        int letThrough(boolean up, Pound upper, Pound lower) {
            passed++;
            if (up) {
                int lost = filled ? drainInto(lower) : 0;
                fillFrom(upper);
                return lost;
            }
            if (!filled) {
                fillFrom(upper);
            }
            return drainInto(lower);
        }

        private void fillFrom(Pound upper) {
            upper.water -= lockful - kept;
            kept = 0;
            filled = true;
            fillings++;
        }

        private int drainInto(Pound lower) {
            int keeps = keepable();
            kept += keeps;
            lower.water += lockful - keeps;
            filled = false;
            return lower.spill();
        }
    }

    /** One who takes of a POUND's WATER, or gives to it. */
    private static final class Taker {
        static final int ANY = 0, MILL = 1, LEAK = 2, FEEDER = 3, PUMP = 4, LAST_SORT = 4;

        final int sort;
        final int place;
        final int amount;
        final int rank;
        int took;

        Taker(int sort, int place, int amount, int rank) {
            this.sort = sort;
            this.place = place;
            this.amount = amount;
            this.rank = rank;
        }

        boolean isA(int asked) {
            return asked == ANY || asked == sort || asked == FEEDER && sort == PUMP;
        }

        int takes(int hour, Pound from) {
            switch (sort) {
                case MILL:
                    return within(hour % 24, 6, 17) ? amount : 0;
                case LEAK:
                    return from.full == 0 ? 0 : amount * from.water / from.full;
                case FEEDER:
                    return -amount;
                case PUMP:
                    return -2 * amount;
                default:
                    return amount;
            }
        }

        int cost() {
            switch (sort) {
                case MILL:
                    return 3;
                case FEEDER:
                    return 1;
                case PUMP:
                    return 1 + amount / 10;
                default:
                    return 0;
            }
        }
    }

    /** One BOAT on its way. */
    private static final class Boat {
        final int to;
        final int load;
        final int pace;
        final int goods;
        final int carrier;
        final int miles;
        int place;
        int ready;
        int waited;
        boolean billed;

        Boat(int from, int to, int load, int pace, int goods, int carrier) {
            this.to = to;
            this.load = load;
            this.pace = pace;
            this.goods = goods;
            this.carrier = carrier;
            miles = 5 * (Math.abs(to - from) + 1);
            place = from;
        }

        void comeInto(int pound, int hour) {
            place = pound;
            ready = pound == to ? NONE : hour + pace;
        }

        boolean isThere() {
            return place == to;
        }

        boolean isReady(int hour) {
            return !isThere() && ready <= hour;
        }

        int nextPlace() {
            return to > place ? place + 1 : place - 1;
        }

        int nextLock() {
            return to > place ? place : place - 1;
        }

        boolean climbs(int summit) {
            return to > place ? place < summit : place > summit;
        }

        int tonMiles() {
            return load * miles;
        }

        int tell(int what) {
            switch (what) {
                case 0:
                    return place;
                case 1:
                    return ready;
                case 2:
                    return isThere() ? 1 : 0;
                case 3:
                    return waited;
                default:
                    return miles;
            }
        }
    }

    /** POUNDS and LOCKS, and all that moves water or goes on it. */
    private static final class Line {
        static final int MOST_TAKERS = 12, MOST_BOATS = 12;

        final Pound[] pounds = new Pound[POUNDS];
        final Lock[] locks = new Lock[LOCKS];
        final Taker[] takers = new Taker[MOST_TAKERS];
        final Taker[] byRank = new Taker[MOST_TAKERS];
        final Boat[] boats = new Boat[MOST_BOATS];
        int takerCount;
        int boatCount;
        int summit = 3;
        int hoursGone;
        long rain;
        long lost;

        Line() {
            for (int i = 0; i < POUNDS; i++) {
                pounds[i] = new Pound();
            }
            for (int i = 0; i < LOCKS; i++) {
                locks[i] = new Lock();
            }
        }

        Pound poundNumbered(int n) {
            return within(n, 0, POUNDS - 1) ? pounds[n] : null;
        }

        Lock lockNumbered(int n) {
            return within(n, 0, LOCKS - 1) ? locks[n] : null;
        }

        Taker takerNumbered(int n) {
            return within(n, 0, takerCount - 1) ? takers[n] : null;
        }

        Boat boatNumbered(int n) {
            return within(n, 0, boatCount - 1) ? boats[n] : null;
        }

        int addTaker(Taker t) {
            int i = takerCount;
            while (i > 0 && byRank[i - 1].rank > t.rank) {
                byRank[i] = byRank[i - 1];
                i--;
            }
            byRank[i] = t;
            takers[takerCount] = t;
            return takerCount++;
        }

        int addBoat(Boat b) {
            b.comeInto(b.place, hoursGone);
            boats[boatCount] = b;
            return boatCount++;
        }

        int wantedBy(Taker t, int hour) {
            return t.takes(hour, pounds[t.place]);
        }

        int goByAnHour(int rainfall) {
            rainOn(rainfall);
            for (int i = 0; i < takerCount; i++) {
                serve(byRank[i]);
            }
            int went = 0;
            for (int i = 0; i < LOCKS; i++) {
                went += workLock(i) ? 1 : 0;
            }
            countWaiting();
            hoursGone++;
            return went;
        }

        private void rainOn(int rainfall) {
            for (int i = 0; i < POUNDS; i++) {
                pounds[i].water += rainfall;
                lost += pounds[i].spill();
                rain += rainfall;
            }
        }

        private void serve(Taker t) {
            Pound p = pounds[t.place];
            int taken = Math.min(wantedBy(t, hoursGone), p.water);
            p.water -= taken;
            t.took += taken;
            lost += p.spill();
        }

        private boolean workLock(int at) {
            Boat b = firstAt(at);
            if (b == null) {
                return false;
            }
            boolean up = b.climbs(summit);
            Pound ahead = pounds[b.nextPlace()];
            Pound behind = pounds[b.place];
            Pound upper = up ? ahead : behind;
            if (upper.water < locks[at].draws(up) || ahead.water < ahead.least + 5 * b.load) {
                return false;
            }
            lost += locks[at].letThrough(up, upper, up ? behind : ahead);
            b.comeInto(b.nextPlace(), hoursGone);
            return true;
        }

        private Boat firstAt(int at) {
            Boat first = null;
            for (int i = 0; i < boatCount; i++) {
                Boat b = boats[i];
                if (b.isReady(hoursGone) && b.nextLock() == at
                        && (first == null || goesAhead(b, first, locks[at]))) {
                    first = b;
                }
            }
            return first;
        }

        /** Whether the rule puts a BOAT ahead of one of lesser number. */
        private boolean goesAhead(Boat b, Boat lesser, Lock at) {
            switch (at.rule) {
                case Lock.HEAVIEST_FIRST:
                    return b.load > lesser.load;
                case Lock.STANDING_RIGHT_FIRST:
                    return at.filled != b.climbs(summit) && at.filled == lesser.climbs(summit);
                default:
                    return false;
            }
        }

        private void countWaiting() {
            for (int i = 0; i < boatCount; i++) {
                if (boats[i].isReady(hoursGone)) {
                    boats[i].waited++;
                }
            }
        }

        int boatsThere() {
            int there = 0;
            for (int i = 0; i < boatCount; i++) {
                there += boats[i].isThere() ? 1 : 0;
            }
            return there;
        }

        long takenInAll() {
            long taken = 0;
            for (int i = 0; i < takerCount; i++) {
                taken += takers[i].took;
            }
            return taken;
        }

        long inPounds() {
            long water = 0;
            for (int i = 0; i < POUNDS; i++) {
                water += pounds[i].water;
            }
            return water;
        }

        long inLocks() {
            long water = 0;
            for (int i = 0; i < LOCKS; i++) {
                water += locks[i].holds();
            }
            return water;
        }

        long addTo(long start) {
            long h = mix(start, summit);
            for (int i = 0; i < POUNDS; i++) {
                for (int what = 0; what < 3; what++) {
                    h = mix(h, pounds[i].tell(what));
                }
            }
            for (int i = 0; i < LOCKS; i++) {
                for (int what = 0; what < 3; what++) {
                    h = mix(h, locks[i].tell(what));
                }
                for (int what = 0; what < 4; what++) {
                    h = mix(h, locks[i].standing(what));
                }
            }
            return addBoatsTo(addTakersTo(h));
        }

        private long addTakersTo(long start) {
            long h = start;
            for (int i = 0; i < takerCount; i++) {
                Taker t = takers[i];
                h = mix(mix(h, t.sort), t.place);
                h = mix(mix(h, t.amount), t.rank);
                h = mix(h, t.took);
            }
            return h;
        }

        private long addBoatsTo(long start) {
            long h = start;
            for (int i = 0; i < boatCount; i++) {
                Boat b = boats[i];
                for (int what = 0; what < 5; what++) {
                    h = mix(h, b.tell(what));
                }
                h = mix(mix(mix(h, b.load), b.goods), b.carrier);
            }
            return h;
        }
    }

    /** One TEXT as it was on THE PAGE, with the DAYS on which it is in force. */
    private static final class Text {
        static final int TOLL = 0, CREDIT = 1;
        private static final int NUMBER_AT = 2;

        final byte[] letters;
        final int act;
        final int number;
        // Behind the "?", or behind the last letter.
        final int condition;
        int from;
        int to = LAST_DAY;

        Text(byte[] letters) {
            this.letters = letters;
            act = letters.length > 0 && letters[0] == 'C' ? CREDIT : TOLL;
            int i = NUMBER_AT;
            int told = 0;
            while (i < letters.length && Book.isDigit(letters[i])) {
                told = 10 * told + letters[i] - '0';
                i++;
            }
            number = told;
            condition = i + 1;
        }

        boolean speaksFor(int asked, Boat b, int day) {
            return act == asked && within(day, from, to)
                    && (condition >= letters.length || conditionHolds(b, day));
        }

        /**
         * Reads the CONDITION once. Each of the three numbers is a pile of bits, the lowest one for
         * the innermost open "(": whether a TERM held, whether all FACTORS of the TERM held so far,
         * whether the next FACTOR is turned round. THE PAGE is too short for more than 63 of them.
         */
        private boolean conditionHolds(Boat b, int day) {
            long held = 0;
            long all = 1;
            long turned = 0;
            for (int i = condition; i < letters.length; i++) {
                int letter = letters[i];
                boolean factorEnds = false;
                boolean holds = false;
                if (letter == '!') {
                    turned ^= 1;
                } else if (letter == '(') {
                    held <<= 1;
                    all = all << 1 | 1;
                    turned <<= 1;
                } else if (letter == ')') {
                    holds = ((held | all) & 1) != 0;
                    factorEnds = true;
                    held >>>= 1;
                    all >>>= 1;
                    turned >>>= 1;
                } else if (letter == '|') {
                    held |= all & 1;
                    all |= 1;
                } else if (isSign(letter)) {
                    holds = compares(i, b, day);
                    factorEnds = true;
                }
                if (factorEnds) {
                    boolean counts = holds != ((turned & 1) != 0);
                    all = counts ? all : all & ~1L;
                    turned &= ~1L;
                }
            }
            return ((held | all) & 1) != 0;
        }

        /** Whether the comparison around the sign at a place holds. */
        private boolean compares(int sign, Boat b, int day) {
            int value = valueOf(sign > 0 ? letters[sign - 1] : 0, b, day);
            int told = 0;
            for (int i = sign + 1; i < letters.length && Book.isDigit(letters[i]); i++) {
                told = 10 * told + letters[i] - '0';
            }
            if (letters[sign] == '<') {
                return value < told;
            }
            return letters[sign] == '=' ? value == told : value > told;
        }

        private static int valueOf(int letter, Boat b, int day) {
            switch (letter) {
                case 'l':
                    return b.load;
                case 'm':
                    return b.miles;
                case 'g':
                    return b.goods;
                case 'c':
                    return b.carrier;
                default:
                    return day;
            }
        }

        static boolean isSign(int letter) {
            return letter == '<' || letter == '=' || letter == '>';
        }
    }

    /** THE PAGE, and the TEXTS that were read from it. */
    private static final class Book {
        static final int MOST_LETTERS = 60;
        private static final int MOST_TEXTS = 16, LAST_LETTER = 126;

        // Where a reader of THE PAGE stands: one of these, and NEST for each "(" that is open.
        private static final int ACT = 0, COLON = 1, NUMBER = 2, NUMBER_ENDS = 6, FACTOR = 7, SIGN = 8;
        private static final int VALUE = 9, VALUE_ENDS = 12, CLOSED = 13, NEST = 16, WRONG = -1;

        final byte[] page = new byte[MOST_LETTERS];
        int pageLength;
        final Text[] texts = new Text[MOST_TEXTS];
        int textCount;

        Text textNumbered(int n) {
            return within(n, 0, textCount - 1) ? texts[n] : null;
        }

        /** How many letters a word tells; NONE: it is not as told. */
        static int lettersIn(long w) {
            int many = 0;
            boolean ended = false;
            for (int i = 0; i < 8; i++) {
                int letter = letterOf(w, i);
                if (letter > LAST_LETTER || ended && letter != 0) {
                    return NONE;
                }
                ended = letter == 0;
                many += ended ? 0 : 1;
            }
            return many;
        }

        private static int letterOf(long w, int i) {
            return (int) (w >>> 8 * i) & 255;
        }

        void write(long w, int many) {
            for (int i = 0; i < many && pageLength < MOST_LETTERS; i++) {
                page[pageLength] = (byte) letterOf(w, i);
                pageLength++;
            }
        }

        int firstFault() {
            int stand = ACT;
            for (int i = 0; i < pageLength; i++) {
                stand = step(stand, page[i]);
                if (stand == WRONG) {
                    return i;
                }
            }
            return pageLength;
        }

        boolean pageIsText() {
            int stand = ACT;
            for (int i = 0; i < pageLength && stand != WRONG; i++) {
                stand = step(stand, page[i]);
            }
            return within(stand, NUMBER + 1, NUMBER_ENDS) || within(stand, VALUE + 1, CLOSED);
        }

        private static int step(int stand, int letter) {
            int state = stand % NEST;
            if (state == ACT) {
                return letter == 'T' || letter == 'C' ? COLON : WRONG;
            }
            if (state == COLON) {
                return letter == ':' ? NUMBER : WRONG;
            }
            if (state <= NUMBER_ENDS) {
                return stepInNumber(stand, letter);
            }
            if (state == FACTOR) {
                return stepAtFactor(stand, letter);
            }
            if (state == SIGN) {
                return Text.isSign(letter) ? stand - SIGN + VALUE : WRONG;
            }
            if (state < VALUE_ENDS && isDigit(letter)) {
                return stand + 1;
            }
            return state == VALUE ? WRONG : stepBehindFactor(stand - state, letter);
        }

        private static int stepInNumber(int stand, int letter) {
            if (stand < NUMBER_ENDS && isDigit(letter)) {
                return stand + 1;
            }
            return stand > NUMBER && letter == '?' ? FACTOR : WRONG;
        }

        private static int stepAtFactor(int stand, int letter) {
            if (letter == '!') {
                return stand;
            }
            if (letter == '(') {
                return stand + NEST;
            }
            return isName(letter) ? stand - FACTOR + SIGN : WRONG;
        }

        private static int stepBehindFactor(int nested, int letter) {
            if (letter == '|' || letter == '&') {
                return nested + FACTOR;
            }
            return letter == ')' && nested > 0 ? nested - NEST + CLOSED : WRONG;
        }

        static boolean isDigit(int letter) {
            return letter >= '0' && letter <= '9';
        }

        private static boolean isName(int letter) {
            return letter == 'l' || letter == 'm' || letter == 'g' || letter == 'c' || letter == 'd';
        }

        int takeText() {
            if (textCount >= MOST_TEXTS) {
                return FULL;
            }
            texts[textCount] = new Text(Arrays.copyOf(page, pageLength));
            pageLength = 0;
            return textCount++;
        }

        int speaker(int act, Boat b, int day) {
            for (int i = textCount - 1; i >= 0; i--) {
                if (texts[i].speaksFor(act, b, day)) {
                    return i;
                }
            }
            return NONE;
        }

        int says(int act, Boat b, int day) {
            Text t = textNumbered(speaker(act, b, day));
            return t == null ? 0 : t.number;
        }

        int quarrelling(int act, Boat b, int day) {
            int first = speaker(act, b, day);
            int many = 0;
            for (int i = 0; i < first; i++) {
                if (texts[i].number != texts[first].number && texts[i].speaksFor(act, b, day)) {
                    many++;
                }
            }
            return many;
        }

        long addTextsTo(long start) {
            long h = start;
            for (int i = 0; i < textCount; i++) {
                Text t = texts[i];
                h = mix(mix(mix(h, t.from), t.to), t.number);
            }
            return h;
        }

        long addPageTo(long start) {
            long h = start;
            for (int i = 0; i < pageLength; i++) {
                h = mix(h, page[i]);
            }
            return h;
        }
    }

    /** COMERS at one LOCK, and THE BEST of their ORDERS. */
    private static final class Turns {
        static final int MOST_ASKED = 20;
        private static final int MOST_COMERS = 8, SETS = 1 << MOST_COMERS, WIDTH = MOST_COMERS + 1;
        private static final int EMPTY = 0, FILLED = 1;
        private static final int AT_START = -1, NO_HOUR_BEFORE = -2, NO_HOUR_BEHIND = 1000;

        final boolean[] up = new boolean[MOST_COMERS];
        final int[] from = new int[MOST_COMERS];
        final int[] by = new int[MOST_COMERS];
        int count;
        int asked;
        boolean solved;
        int bestFillings;
        int bestLast;
        final int[] best = new int[MOST_COMERS];
        // An hour for each set of COMERS, each state of the LOCK and number of FILLINGS; made
        // when it is first needed, since few objects are asked for THE BEST.
        private int[] table;

        int add(boolean goesUp, int first, int last) {
            if (count >= MOST_COMERS) {
                return FULL;
            }
            up[count] = goesUp;
            from[count] = first;
            by[count] = last;
            solved = false;
            return count++;
        }

        int removeAll() {
            int were = count;
            count = 0;
            solved = false;
            return were;
        }

        int bestAt(int place) {
            return bestFillings != NONE && within(place, 0, count - 1) ? best[place] : NONE;
        }

        boolean isOrder(int order) {
            if (!within(order, 0, (1 << 3 * count) - 1)) {
                return false;
            }
            int seen = 0;
            for (int place = 0; place < count; place++) {
                seen |= 1 << comerAt(order, place);
            }
            return seen == (1 << count) - 1;
        }

        private int comerAt(int order, int place) {
            return order >> 3 * (count - 1 - place) & 7;
        }

        int fillingsOf(int order) {
            int hour = AT_START;
            int state = EMPTY;
            int fillings = 0;
            for (int place = 0; place < count; place++) {
                int c = comerAt(order, place);
                hour = hourOf(c, hour);
                if (hour > by[c]) {
                    return TARDY - place;
                }
                fillings += spends(c, state);
                state = stateBehind(c);
            }
            return fillings;
        }

        private int hourOf(int c, int ahead) {
            return Math.max(ahead + 1, from[c]);
        }

        private int spends(int c, int state) {
            return up[c] || state == EMPTY ? 1 : 0;
        }

        private int stateBehind(int c) {
            return up[c] ? FILLED : EMPTY;
        }

        private static int cell(int set, int state, int fillings) {
            return (2 * set + state) * WIDTH + fillings;
        }

        void solve() {
            if (solved) {
                return;
            }
            solved = true;
            if (table == null) {
                table = new int[2 * SETS * WIDTH];
            }
            fillEarliest();
            chooseGoal();
            if (bestFillings != NONE) {
                fillLatest();
                layOut();
            }
        }

        /** For those that have passed: the earliest hour in which the last of them did. */
        private void fillEarliest() {
            Arrays.fill(table, NO_HOUR_BEHIND);
            table[cell(0, EMPTY, 0)] = AT_START;
            for (int set = 0; set < 1 << count; set++) {
                for (int fillings = 0; fillings <= count; fillings++) {
                    extend(set, EMPTY, fillings);
                    extend(set, FILLED, fillings);
                }
            }
        }

        private void extend(int set, int state, int fillings) {
            int ahead = table[cell(set, state, fillings)];
            if (ahead == NO_HOUR_BEHIND) {
                return;
            }
            for (int c = 0; c < count; c++) {
                int hour = hourOf(c, ahead);
                if (hasBit(set, c) || hour > by[c]) {
                    continue;
                }
                int next = cell(set | 1 << c, stateBehind(c), fillings + spends(c, state));
                table[next] = Math.min(table[next], hour);
            }
        }

        private void chooseGoal() {
            int all = (1 << count) - 1;
            bestFillings = NONE;
            bestLast = NONE;
            for (int fillings = 0; fillings <= count && bestFillings == NONE; fillings++) {
                int last = Math.min(table[cell(all, EMPTY, fillings)], table[cell(all, FILLED, fillings)]);
                if (last != NO_HOUR_BEHIND) {
                    bestFillings = fillings;
                    bestLast = last;
                }
            }
        }

        /** For those that are to pass yet: the latest hour of the one ahead that still reaches the goal. */
        private void fillLatest() {
            Arrays.fill(table, NO_HOUR_BEFORE);
            table[cell(0, EMPTY, 0)] = NO_HOUR_BEHIND;
            table[cell(0, FILLED, 0)] = NO_HOUR_BEHIND;
            for (int rest = 1; rest < 1 << count; rest++) {
                for (int fillings = 0; fillings <= bestFillings; fillings++) {
                    table[cell(rest, EMPTY, fillings)] = latestAhead(rest, EMPTY, fillings);
                    table[cell(rest, FILLED, fillings)] = latestAhead(rest, FILLED, fillings);
                }
            }
        }

        private int latestAhead(int rest, int state, int fillings) {
            int latest = NO_HOUR_BEFORE;
            for (int c = 0; c < count; c++) {
                if (hasBit(rest, c)) {
                    int due = latestOf(c, rest, fillings - spends(c, state));
                    latest = from[c] <= due ? Math.max(latest, due - 1) : latest;
                }
            }
            return latest;
        }

        /** The latest hour in which one of the rest may pass as their first. */
        private int latestOf(int c, int rest, int fillingsLeft) {
            if (fillingsLeft < 0) {
                return NO_HOUR_BEFORE;
            }
            int due = Math.min(by[c], bestLast);
            return Math.min(due, table[cell(rest ^ 1 << c, stateBehind(c), fillingsLeft)]);
        }

        private void layOut() {
            int rest = (1 << count) - 1;
            int state = EMPTY;
            int left = bestFillings;
            int hour = AT_START;
            for (int place = 0; place < count; place++) {
                int c = leastThatFits(rest, state, left, hour);
                best[place] = c;
                hour = hourOf(c, hour);
                left -= spends(c, state);
                state = stateBehind(c);
                rest ^= 1 << c;
            }
        }

        private int leastThatFits(int rest, int state, int left, int ahead) {
            int c = 0;
            while (c < count - 1 && !(hasBit(rest, c)
                    && hourOf(c, ahead) <= latestOf(c, rest, left - spends(c, state)))) {
                c++;
            }
            return c;
        }

        long addTo(long start) {
            long h = start;
            for (int i = 0; i < count; i++) {
                h = mix(mix(mix(h, up[i] ? 1 : 0), from[i]), by[i]);
            }
            return h;
        }
    }

    /** BANKS that may leak, and what was READ at night. */
    private static final class Banks {
        private static final int MOST_BANKS = 10;

        final int[] place = new int[MOST_BANKS];
        final int[] amount = new int[MOST_BANKS];
        int count;
        final boolean[] isRead = new boolean[POUNDS];
        final int[] fell = new int[POUNDS];
        final int[] miss = new int[POUNDS];
        // What the set that search() looks at leaks at each POUND.
        private final int[] leaks = new int[POUNDS];
        int fewest;
        int rivals;

        int add(int pound, int much) {
            if (count >= MOST_BANKS) {
                return FULL;
            }
            place[count] = pound;
            amount[count] = much;
            return count++;
        }

        void note(int pound, int fall, int error) {
            isRead[pound] = true;
            fell[pound] = fall;
            miss[pound] = error;
        }

        int readings() {
            int many = 0;
            for (int i = 0; i < POUNDS; i++) {
                many += isRead[i] ? 1 : 0;
            }
            return many;
        }

        void forget() {
            for (int i = 0; i < POUNDS; i++) {
                isRead[i] = false;
            }
        }

        /** Tries all sets by their bits, so that the first of a size is the one of least bits. */
        void search() {
            fewest = NONE;
            rivals = 0;
            int size = count + 1;
            Arrays.fill(leaks, 0);
            for (int set = 0; set < 1 << count; set++) {
                if (set > 0) {
                    turnTo(set);
                }
                int many = Integer.bitCount(set);
                if (many > size || !explains()) {
                    continue;
                }
                rivals = many == size ? rivals + 1 : 0;
                fewest = many == size ? fewest : set;
                size = many;
            }
        }

        /** From the set before this one only the lowest bits change. */
        private void turnTo(int set) {
            int changed = set ^ set - 1;
            for (int i = 0; i < count && changed >> i != 0; i++) {
                leaks[place[i]] += hasBit(set, i) ? amount[i] : -amount[i];
            }
        }

        private boolean explains() {
            for (int i = 0; i < POUNDS; i++) {
                if (isRead[i] && Math.abs(leaks[i] - fell[i]) > miss[i]) {
                    return false;
                }
            }
            return true;
        }

        long addTo(long start) {
            long h = start;
            for (int i = 0; i < count; i++) {
                h = mix(mix(h, place[i]), amount[i]);
            }
            for (int i = 0; i < POUNDS; i++) {
                if (isRead[i]) {
                    h = mix(mix(h, fell[i]), miss[i]);
                }
            }
            return h;
        }
    }

    /** What CARRIERS owe and are owed, SHARES, and THE RAILWAY's RATE. */
    private static final class Money {
        private static final int MOST_PASSES = 24;

        final int[] owed = new int[CARRIERS];
        private final int[] debts = new int[CARRIERS * RANKS];
        final int[] told = new int[HOLDERS];
        private final int[] giver = new int[MOST_PASSES];
        private final int[] getter = new int[MOST_PASSES];
        private final int[] many = new int[MOST_PASSES];
        private final int[] passDay = new int[MOST_PASSES];
        int passCount;
        int rate = 9;

        private int debtOf(int carrier, int rank) {
            return debts[carrier * RANKS + rank];
        }

        int replaceDebt(int carrier, int rank, int v) {
            int was = debtOf(carrier, rank);
            debts[carrier * RANKS + rank] = v;
            return was;
        }

        int paidTo(int carrier, int there) {
            int left = there;
            int gets = 0;
            for (int rank = 0; rank < RANKS; rank++) {
                int all = allOf(rank);
                gets += all <= left ? debtOf(carrier, rank) : partOfRank(carrier, rank, left, all);
                left = Math.max(0, left - all);
            }
            return gets;
        }

        private int allOf(int rank) {
            int all = 0;
            for (int i = 0; i < CARRIERS; i++) {
                all += debtOf(i, rank);
            }
            return all;
        }

        private int partOfRank(int carrier, int rank, int there, int all) {
            if (all <= 0 || debtOf(carrier, rank) == 0) {
                return 0;
            }
            int left = there;
            int ahead = 0;
            for (int i = 0; i < CARRIERS; i++) {
                left -= there * debtOf(i, rank) / all;
                ahead += i < carrier && debtOf(i, rank) > 0 ? 1 : 0;
            }
            return there * debtOf(carrier, rank) / all + (ahead < left ? 1 : 0);
        }

        int latestDay() {
            return passCount == 0 ? 0 : passDay[passCount - 1];
        }

        int addPass(int a, int b, int much, int day) {
            if (passCount >= MOST_PASSES) {
                return FULL;
            }
            giver[passCount] = a;
            getter[passCount] = b;
            many[passCount] = much;
            passDay[passCount] = day;
            passCount++;
            return passCount;
        }

        int held(int holder, int day) {
            int has = told[holder];
            for (int i = 0; i < passCount && passDay[i] <= day; i++) {
                if (giver[i] == holder) {
                    has -= many[i];
                } else if (getter[i] == holder) {
                    has += many[i];
                }
            }
            return has;
        }

        /** Passing changes nothing in it. */
        int allShares() {
            int all = 0;
            for (int i = 0; i < HOLDERS; i++) {
                all += told[i];
            }
            return all;
        }

        int partOf(int holder, int coin, int day, int all) {
            if (all <= 0) {
                return 0;
            }
            long own = (long) coin * held(holder, day);
            long left = coin;
            int ahead = 0;
            for (int i = 0; i < HOLDERS; i++) {
                long other = (long) coin * held(i, day);
                left -= other / all;
                if (other % all > own % all || other % all == own % all && i < holder) {
                    ahead++;
                }
            }
            return (int) (own / all) + (ahead < left ? 1 : 0);
        }

        boolean goesOver(Boat b, int pence) {
            return rate * b.tonMiles() / 10 < pence * b.tonMiles();
        }

        long addTo(long start) {
            long h = start;
            for (int i = 0; i < CARRIERS; i++) {
                h = mix(h, owed[i]);
            }
            for (int i = 0; i < CARRIERS * RANKS; i++) {
                h = mix(h, debts[i]);
            }
            for (int i = 0; i < HOLDERS; i++) {
                h = mix(h, held(i, LAST_DAY));
            }
            return mix(h, rate);
        }
    }

    /** WORKS, and which of them a told COIN should pay for. */
    private static final class Works {
        private static final int MOST_WORKS = 8;

        private final int[] cost = new int[MOST_WORKS];
        private final int[] gives = new int[MOST_WORKS];
        private final int[] needs = new int[MOST_WORKS];
        int count;

        int add(int price, int yearly, int other) {
            if (count >= MOST_WORKS) {
                return FULL;
            }
            cost[count] = price;
            gives[count] = yearly;
            needs[count] = other;
            return count++;
        }

        int costOf(int set) {
            return sumOver(cost, set);
        }

        int given(int set) {
            return sumOver(gives, set);
        }

        private int sumOver(int[] row, int set) {
            int all = 0;
            for (int i = 0; i < count; i++) {
                all += hasBit(set, i) ? row[i] : 0;
            }
            return all;
        }

        private boolean isComplete(int set) {
            for (int i = 0; i < count; i++) {
                if (hasBit(set, i) && needs[i] != NONE && !hasBit(set, needs[i])) {
                    return false;
                }
            }
            return true;
        }

        /** Tries the sets by their bits, and takes another one only if it is better. */
        int bestSet(int coin) {
            int best = 0;
            for (int set = 1; set < 1 << count; set++) {
                if (costOf(set) <= coin && isComplete(set) && isBetter(set, best)) {
                    best = set;
                }
            }
            return best;
        }

        private boolean isBetter(int set, int than) {
            int more = given(set) - given(than);
            return more > 0 || more == 0 && costOf(set) < costOf(than);
        }

        long addTo(long start) {
            long h = start;
            for (int i = 0; i < count; i++) {
                h = mix(mix(mix(h, cost[i]), gives[i]), needs[i]);
            }
            return h;
        }
    }
}
