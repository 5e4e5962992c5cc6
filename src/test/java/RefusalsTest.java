import java.lang.reflect.InvocationTargetException;
import java.lang.reflect.Method;
import java.util.ArrayList;
import java.util.Arrays;
import java.util.List;
import java.util.function.Supplier;

/**
 * What each call refuses, as rows of a table. For each argument: the last values that are taken and the
 * first that are refused, on both sides, and some far off. For each two reasons: which one is told. For
 * each refusal: that nothing has changed, seen against a twin that was not asked.
 */
public final class RefusalsTest {
    private static final int NONE = -1, UNKNOWN = -101, OUTSIDE = -102, STATE = -103, FULL = -104;
    private static final int ACTS_UNKNOWN = -1001, ACTS_OUTSIDE = -1002;
    private static final Check CHECK = new Check();

    /**
     * One argument: its refusal, the least and the most that are taken, and what it is while others are
     * tried. One that chooses what another one means is not tried by itself at its least and most.
     */
    private record Part(int code, int least, int most, int usual, boolean chooses) {
        /** The first on both sides, and such as would be taken if their higher bits were lost. */
        List<Integer> refused() {
            List<Integer> all = new ArrayList<>();
            long[] tries = {least - 1L, most + 1L, least + 256L, most + 256L, least + 65536L, most - 65536L,
                Integer.MIN_VALUE, Integer.MAX_VALUE, -1000L};
            for (long v : tries) {
                boolean outside = v < least || v > most;
                if (v == (int) v && outside && !all.contains((int) v)) {
                    all.add((int) v);
                }
            }
            return all;
        }
    }

    /** A state in which even arguments that are as told are refused. */
    private record Closed(int code, Supplier<CanalCompany> start) { }

    /** One call in one state, with its refusals in the document's order. */
    private static final class Row {
        private final String label;
        private final Method method;
        private final Supplier<CanalCompany> start;
        private final List<Integer> order = new ArrayList<>();
        private final List<Part> parts = new ArrayList<>();
        private final List<Closed> closed = new ArrayList<>();

        Row(String label, Supplier<CanalCompany> start, int... order) {
            this.label = label;
            this.start = start;
            method = methodNamed(label.substring(label.indexOf(' ') + 1));
            for (int code : order) {
                this.order.add(code);
            }
        }

        Row part(int code, int least, int most) {
            return part(code, least, most, least);
        }

        Row part(int code, int least, int most, int usual) {
            parts.add(new Part(code, least, most, usual, false));
            return this;
        }

        Row choice(int code, int least, int most, int usual) {
            parts.add(new Part(code, least, most, usual, true));
            return this;
        }

        Row closed(int code, Supplier<CanalCompany> state) {
            closed.add(new Closed(code, state));
            return this;
        }

        void check() {
            taken(usual());
            for (int i = 0; i < parts.size(); i++) {
                if (!parts.get(i).chooses()) {
                    taken(usualBut(i, parts.get(i).least()));
                    taken(usualBut(i, parts.get(i).most()));
                }
                for (int v : parts.get(i).refused()) {
                    refused(start, usualBut(i, v), parts.get(i).code());
                    refusedForTheFirstOfTwo(i, v);
                }
            }
            for (Closed each : closed) {
                refusedIn(each);
            }
        }

        private int[] usual() {
            int[] args = new int[parts.size()];
            for (int i = 0; i < args.length; i++) {
                args[i] = parts.get(i).usual();
            }
            return args;
        }

        private int[] usualBut(int at, int v) {
            int[] args = usual();
            args[at] = v;
            return args;
        }

        private int firstOf(int code, int other) {
            return order.indexOf(code) <= order.indexOf(other) ? code : other;
        }

        private void taken(int[] args) {
            long got = call(start.get(), args);
            CHECK.holds(label + Arrays.toString(args) + " was refused by " + got,
                    !List.of(UNKNOWN, OUTSIDE, STATE, FULL).contains((int) got) && !order.contains((int) got));
        }

        private void refused(Supplier<CanalCompany> from, int[] args, int code) {
            CanalCompany x = from.get();
            CHECK.due(label + Arrays.toString(args), call(x, args), code);
            CHECK.holds(label + Arrays.toString(args) + " changed something",
                    everything(x).equals(everything(from.get())));
        }

        private void refusedForTheFirstOfTwo(int i, int v) {
            for (int j = i + 1; j < parts.size(); j++) {
                int code = firstOf(parts.get(i).code(), parts.get(j).code());
                for (int w : parts.get(j).refused()) {
                    int[] args = usualBut(i, v);
                    args[j] = w;
                    CHECK.due(label + Arrays.toString(args), call(start.get(), args), code);
                }
            }
        }

        private void refusedIn(Closed state) {
            refused(state.start(), usual(), state.code());
            for (int i = 0; i < parts.size(); i++) {
                for (int v : parts.get(i).refused()) {
                    refused(state.start(), usualBut(i, v), firstOf(state.code(), parts.get(i).code()));
                }
            }
        }

        /** A boolean argument has no part: nothing is refused for it. */
        private long call(CanalCompany x, int[] args) {
            Class<?>[] types = method.getParameterTypes();
            Object[] all = new Object[types.length];
            int next = 0;
            for (int i = 0; i < types.length; i++) {
                all[i] = types[i] == boolean.class ? (Object) true : (Object) args[next++];
            }
            try {
                return ((Number) method.invoke(x, all)).longValue();
            } catch (IllegalAccessException | InvocationTargetException e) {
                throw new IllegalStateException(label + Arrays.toString(args), e);
            }
        }
    }

    public static void main(String[] args) {
        pounds();
        locks();
        takers();
        boats();
        hours();
        texts();
        turns();
        orders();
        dry();
        banks();
        carriers();
        shares();
        passes();
        railway();
        works();
        told();
        lettersOfAWord();
        lettersBeyondThePage();
        CHECK.end();
    }

    private static Row row(String label, Supplier<CanalCompany> start, int... order) {
        return new Row(label, start, order);
    }

    private static Method methodNamed(String name) {
        for (Method m : CanalCompany.class.getDeclaredMethods()) {
            if (m.getName().equals(name)) {
                return m;
            }
        }
        throw new IllegalStateException("there is no call " + name);
    }

    /** The answers to a long row of questions; they differ where the states of two objects do. */
    private static List<Long> everything(CanalCompany x) {
        List<Long> all = new ArrayList<>();
        all.add(x.digest());
        for (int i = 0; i < 12; i++) {
            all.add((long) x.acts(i, 0, 12));
            all.add((long) x.as(i, 3));
            all.add((long) x.speaks(0, i, 55));
            all.add((long) x.quarrel(0, i, 70));
            all.add((long) x.bill(i, 55));
        }
        for (int i = 0; i < 6; i++) {
            all.add((long) x.had(i, 20));
            all.add((long) x.dividend(i, 101, 25));
            all.add((long) x.failed(i, 77));
        }
        for (int what = 0; what < 18; what++) {
            all.add((long) x.turn(what));
        }
        all.add((long) x.find(0));
        all.add((long) x.find(1));
        all.add((long) x.over(1));
        all.add((long) x.plan(12, 0));
        all.add((long) x.fault());
        all.add((long) x.hours(9, 3));
        all.add((long) x.letters(Canals.word("l<1")));
        all.add((long) x.text());
        all.add((long) x.summit(2));
        all.add((long) x.shares(0, 1));
        all.add((long) x.pass(1, 0, 1, 30));
        all.add(x.digest());
        return all;
    }

    private static CanalCompany behind(int hours) {
        CanalCompany x = Canals.prepared();
        Canals.passHours(x, hours);
        return x;
    }

    private static CanalCompany withBoat() {
        CanalCompany x = Canals.prepared();
        x.boat(0, 1, 1, 1, 0, 0);
        return x;
    }

    private static CanalCompany withPounds(int water, int full) {
        CanalCompany x = Canals.busy();
        for (int i = 0; i < 8; i++) {
            x.pound(i, 0, 0);
            x.pound(i, 1, full);
            x.pound(i, 0, water);
        }
        return x;
    }

    private static void poundBecomes(int water, int full, int what, int least, int most) {
        row("2 pound", () -> withPounds(water, full), UNKNOWN, OUTSIDE)
                .part(UNKNOWN, 0, 7).choice(UNKNOWN, 0, 2, what).part(OUTSIDE, least, most).check();
    }

    private static void pounds() {
        poundBecomes(1000, 1000, 0, 0, 1000);
        poundBecomes(0, 9999, 0, 0, 9999);
        poundBecomes(100, 100, 0, 0, 100);
        poundBecomes(0, 100, 1, 100, 9999);
        poundBecomes(99, 100, 1, 100, 9999);
        poundBecomes(100, 100, 1, 100, 9999);
        poundBecomes(101, 200, 1, 101, 9999);
        poundBecomes(9999, 9999, 1, 9999, 9999);
        poundBecomes(0, 100, 2, 0, 9999);
        poundBecomes(9999, 9999, 2, 0, 9999);
        row("13 now", Canals::busy, UNKNOWN, OUTSIDE).part(UNKNOWN, 0, 7).part(OUTSIDE, 0, 2).check();
        row("3 summit", Canals::prepared, OUTSIDE, STATE).part(OUTSIDE, 1, 6)
                .closed(STATE, () -> behind(1)).closed(STATE, RefusalsTest::withBoat)
                .closed(STATE, Canals::busy).check();
    }

    private static void locks() {
        row("4 lock", Canals::prepared, UNKNOWN, OUTSIDE, STATE)
                .part(UNKNOWN, 0, 6).choice(UNKNOWN, 0, 2, 0).part(OUTSIDE, 10, 200)
                .closed(STATE, () -> behind(1)).closed(STATE, () -> behind(600)).check();
        row("4 lock", Canals::prepared, UNKNOWN, OUTSIDE, STATE)
                .part(UNKNOWN, 0, 6).choice(UNKNOWN, 0, 2, 1).part(OUTSIDE, 0, 1)
                .closed(STATE, () -> behind(1)).closed(STATE, () -> behind(600)).check();
        for (Supplier<CanalCompany> start : List.<Supplier<CanalCompany>>of(Canals::prepared, () -> behind(600))) {
            row("4 lock", start, UNKNOWN, OUTSIDE)
                    .part(UNKNOWN, 0, 6).choice(UNKNOWN, 0, 2, 2).part(OUTSIDE, 0, 2).check();
        }
        // A BOAT that is told is no reason to refuse.
        row("4 lock", RefusalsTest::withBoat, UNKNOWN, OUTSIDE)
                .part(UNKNOWN, 0, 6).choice(UNKNOWN, 0, 2, 0).part(OUTSIDE, 10, 200).check();
        row("12 lockIs", Canals::busy, UNKNOWN, OUTSIDE).part(UNKNOWN, 0, 6).part(OUTSIDE, 0, 3).check();
    }

    private static CanalCompany withTakers(int many) {
        CanalCompany x = new CanalCompany();
        for (int i = 0; i < many; i++) {
            x.taker(i % 5, i % 8, 1 + i, i % 10);
        }
        return x;
    }

    private static void takers() {
        for (int many : new int[] {0, 11}) {
            row("5 taker", () -> withTakers(many), UNKNOWN, OUTSIDE, FULL).part(OUTSIDE, 0, 4).part(UNKNOWN, 0, 7)
                    .part(OUTSIDE, 1, 200).part(OUTSIDE, 0, 9).closed(FULL, () -> withTakers(12)).check();
        }
        for (int many : new int[] {1, 12}) {
            row("6 as", () -> withTakers(many), UNKNOWN, OUTSIDE).part(UNKNOWN, 0, many - 1).part(OUTSIDE, 0, 4)
                    .closed(UNKNOWN, CanalCompany::new).check();
            row("7 acts", () -> withTakers(many), ACTS_UNKNOWN, ACTS_OUTSIDE).part(ACTS_UNKNOWN, 0, many - 1)
                    .part(ACTS_OUTSIDE, 0, 2).part(ACTS_OUTSIDE, 0, 599)
                    .closed(ACTS_UNKNOWN, CanalCompany::new).check();
        }
    }

    private static CanalCompany withBoats(int many) {
        CanalCompany x = new CanalCompany();
        Canals.tell(x, "T:1");
        Canals.tell(x, "C:9999");
        for (int i = 0; i < many; i++) {
            x.boat(i % 7, 7, i, 1 + i % 9, i % 4, i % 4);
        }
        return x;
    }

    private static void boats() {
        for (int many : new int[] {0, 11}) {
            row("8 boat", () -> withBoats(many), UNKNOWN, OUTSIDE, FULL).part(UNKNOWN, 0, 7, 4).part(UNKNOWN, 0, 7, 3)
                    .part(OUTSIDE, 0, 40).part(OUTSIDE, 1, 9).part(OUTSIDE, 0, 3).part(OUTSIDE, 0, 3)
                    .closed(FULL, () -> withBoats(12)).check();
        }
        for (int same = 0; same < 8; same++) {
            CanalCompany x = withBoats(11);
            long was = x.digest();
            CHECK.due("8 from and to are the same", x.boat(same, same, 0, 1, 0, 0), UNKNOWN);
            CHECK.due("8 the same, and outside", x.boat(same, same, 41, 0, 4, 4), UNKNOWN);
            CHECK.due("8 the same, and full", withBoats(12).boat(same, same, 0, 1, 0, 0), UNKNOWN);
            CHECK.due("8 nothing changed", x.digest(), was);
        }
        for (int many : new int[] {1, 12}) {
            row("11 at", () -> withBoats(many), UNKNOWN, OUTSIDE).part(UNKNOWN, 0, many - 1).part(OUTSIDE, 0, 4)
                    .closed(UNKNOWN, CanalCompany::new).check();
            row("22 toll", () -> withBoats(many), UNKNOWN, OUTSIDE).part(UNKNOWN, 0, many - 1).part(OUTSIDE, 0, 99)
                    .closed(UNKNOWN, CanalCompany::new).check();
            for (String name : new String[] {"20 speaks", "21 quarrel"}) {
                row(name, () -> withBoats(many), OUTSIDE, UNKNOWN).part(OUTSIDE, 0, 1).part(UNKNOWN, 0, many - 1)
                        .part(OUTSIDE, 0, 99).closed(UNKNOWN, CanalCompany::new).check();
            }
            row("32 bill", () -> withBoats(many), UNKNOWN, OUTSIDE, STATE).part(UNKNOWN, 0, many - 1)
                    .part(OUTSIDE, 0, 99).closed(UNKNOWN, CanalCompany::new).closed(STATE, () -> billed(many)).check();
        }
    }

    private static CanalCompany billed(int boats) {
        CanalCompany x = withBoats(boats);
        x.bill(0, 0);
        return x;
    }

    private static void hours() {
        for (int gone : new int[] {0, 599}) {
            row("9 hour", () -> behind(gone), OUTSIDE, STATE).part(OUTSIDE, 0, 50)
                    .closed(STATE, () -> behind(600)).check();
        }
        row("10 hours", () -> behind(500), OUTSIDE, STATE).part(OUTSIDE, 1, 100).part(OUTSIDE, 0, 50)
                .closed(STATE, () -> behind(600)).check();
        row("10 hours", () -> behind(500), OUTSIDE, STATE).part(OUTSIDE, 1, 100, 100).part(OUTSIDE, 0, 50)
                .closed(STATE, () -> behind(501)).closed(STATE, () -> behind(599)).check();
        row("10 hours", () -> behind(0), OUTSIDE, STATE).part(OUTSIDE, 1, 100, 2).part(OUTSIDE, 0, 50)
                .closed(STATE, () -> behind(599)).check();
    }

    private static CanalCompany withTexts(int many, String page) {
        CanalCompany x = new CanalCompany();
        x.boat(0, 3, 6, 1, 1, 1);
        for (int i = 0; i < many; i++) {
            Canals.tell(x, i % 2 == 0 ? "T:" + i : "C:" + i + "?l>" + i);
        }
        Canals.write(x, page);
        return x;
    }

    private static void texts() {
        for (int many : new int[] {0, 15}) {
            row("18 text", () -> withTexts(many, "T:1?d<9"), STATE, FULL)
                    .closed(STATE, () -> withTexts(many, "")).closed(STATE, () -> withTexts(many, "T:1?"))
                    .closed(STATE, () -> withTexts(16, "")).closed(STATE, () -> withTexts(16, "T:1?d<9)"))
                    .closed(FULL, () -> withTexts(16, "T:1?d<9")).check();
        }
        for (int many : new int[] {1, 16}) {
            row("19 force", () -> withTexts(many, ""), UNKNOWN, OUTSIDE).part(UNKNOWN, 0, many - 1)
                    .part(OUTSIDE, 0, 20, 10).part(OUTSIDE, 10, 99, 20).closed(UNKNOWN, CanalCompany::new).check();
            row("19 force", () -> withTexts(many, ""), UNKNOWN, OUTSIDE).part(UNKNOWN, 0, many - 1)
                    .part(OUTSIDE, 0, 0, 0).part(OUTSIDE, 0, 99, 0).check();
            row("19 force", () -> withTexts(many, ""), UNKNOWN, OUTSIDE).part(UNKNOWN, 0, many - 1)
                    .part(OUTSIDE, 0, 99, 99).part(OUTSIDE, 99, 99, 99).check();
        }
    }

    private static CanalCompany withComers(int many) {
        CanalCompany x = new CanalCompany();
        for (int i = 0; i < many; i++) {
            x.comer(i % 3 == 0, i, 20 + i);
        }
        return x;
    }

    private static CanalCompany turned(int times, int comers) {
        CanalCompany x = withComers(comers);
        for (int i = 0; i < times; i++) {
            x.turn(i % 2);
        }
        return x;
    }

    private static void turns() {
        for (int many : new int[] {0, 7}) {
            row("23 comer", () -> withComers(many), OUTSIDE, FULL).part(OUTSIDE, 0, 23).part(OUTSIDE, 0, 99)
                    .closed(FULL, () -> withComers(8)).check();
            row("25 turn", () -> turned(19, many), OUTSIDE, STATE).part(OUTSIDE, 0, 1)
                    .closed(STATE, () -> turned(20, many)).check();
            row("25 turn", () -> turned(19, many), OUTSIDE, STATE).part(OUTSIDE, 10, 17)
                    .closed(STATE, () -> turned(20, many)).check();
            for (int what = 2; what < 10; what++) {
                CHECK.due("25 what", turned(0, many).turn(what), OUTSIDE);
                CHECK.due("25 what, and done 20 times", turned(20, many).turn(what), OUTSIDE);
            }
        }
    }

    private static void notAnOrder(int comers, int order) {
        CanalCompany x = withComers(comers);
        CHECK.due("26 judge(" + Integer.toOctalString(order) + ") of " + comers, x.judge(order), OUTSIDE);
        CHECK.holds("26 judge changed something", everything(x).equals(everything(withComers(comers))));
    }

    private static void orders() {
        for (int order : new int[] {0, 1, -1, 8, Integer.MIN_VALUE, Integer.MAX_VALUE}) {
            CHECK.due("26 no COMERS come first", withComers(0).judge(order), STATE);
        }
        int whole = 0;
        for (int many = 1; many <= 8; many++) {
            whole = 8 * whole + many - 1;
            CHECK.holds("26 each once", withComers(many).judge(whole) >= 0);
            int top = 1 << 3 * many;
            notAnOrder(many, whole + top);
            notAnOrder(many, whole - top);
            notAnOrder(many, -1);
            notAnOrder(many, Integer.MIN_VALUE);
            notAnOrder(many, Integer.MIN_VALUE + whole);
            notAnOrder(many, Integer.MAX_VALUE);
            for (int place = 0; place < many; place++) {
                int unit = 1 << 3 * (many - 1 - place);
                for (int figure = 0; figure < 8; figure++) {
                    // COMER 'place' stands there: any other figure is a second one, or none of them.
                    if (figure != place) {
                        notAnOrder(many, whole + (figure - place) * unit);
                    }
                }
            }
        }
    }

    private static void dry() {
        row("27 dry", Canals::busy, OUTSIDE).part(OUTSIDE, 0, 1).part(OUTSIDE, 0, 20, 10).part(OUTSIDE, 10, 9999, 20)
                .part(OUTSIDE, 0, 40, 30).part(OUTSIDE, 30, 9999, 40).check();
        row("27 dry", Canals::busy, OUTSIDE).part(OUTSIDE, 0, 1).part(OUTSIDE, 0, 0).part(OUTSIDE, 0, 9999)
                .part(OUTSIDE, 0, 0).part(OUTSIDE, 0, 9999).check();
        row("27 dry", Canals::busy, OUTSIDE).part(OUTSIDE, 0, 1).part(OUTSIDE, 0, 9999, 9999)
                .part(OUTSIDE, 9999, 9999).part(OUTSIDE, 0, 9999, 9999).part(OUTSIDE, 9999, 9999).check();
    }

    private static CanalCompany withBanks(int many) {
        CanalCompany x = new CanalCompany();
        for (int i = 0; i < many; i++) {
            x.bank(i % 8, 1 + i);
        }
        x.read(1, 2, 1);
        return x;
    }

    private static void banks() {
        for (int many : new int[] {0, 9}) {
            row("28 bank", () -> withBanks(many), UNKNOWN, OUTSIDE, FULL).part(UNKNOWN, 0, 7).part(OUTSIDE, 1, 999)
                    .closed(FULL, () -> withBanks(10)).check();
        }
        row("29 read", () -> withBanks(3), UNKNOWN, OUTSIDE).part(UNKNOWN, 0, 7).part(OUTSIDE, 0, 9999)
                .part(OUTSIDE, 0, 99).check();
        row("31 find", () -> withBanks(3), OUTSIDE).part(OUTSIDE, 0, 1).check();
    }

    private static void carriers() {
        row("33 pay", Canals::busy, UNKNOWN, OUTSIDE).part(UNKNOWN, 0, 3, 3).part(OUTSIDE, 0, 999999).check();
        row("34 debt", Canals::busy, UNKNOWN, OUTSIDE).part(UNKNOWN, 0, 3).part(UNKNOWN, 0, 2)
                .part(OUTSIDE, 0, 9999).check();
        row("35 failed", Canals::busy, UNKNOWN, OUTSIDE).part(UNKNOWN, 0, 3).part(OUTSIDE, 0, 99999).check();
    }

    private static CanalCompany withShares(int each) {
        CanalCompany x = new CanalCompany();
        for (int i = 0; i < 6; i++) {
            x.shares(i, each);
        }
        return x;
    }

    private static CanalCompany passedTimes(int times, int day) {
        CanalCompany x = withShares(999);
        for (int i = 0; i < times; i++) {
            x.pass(2 + i % 2, 3 - i % 2, 1, day);
        }
        return x;
    }

    private static void shares() {
        row("36 shares", () -> withShares(7), UNKNOWN, OUTSIDE, STATE).part(UNKNOWN, 0, 5).part(OUTSIDE, 0, 999)
                .closed(STATE, () -> passedTimes(1, 0)).closed(STATE, () -> passedTimes(24, 99)).check();
        row("38 had", Canals::busy, UNKNOWN, OUTSIDE).part(UNKNOWN, 0, 5).part(OUTSIDE, 0, 99).check();
        row("39 dividend", Canals::busy, UNKNOWN, OUTSIDE, STATE).part(UNKNOWN, 0, 5).part(OUTSIDE, 0, 999999)
                .part(OUTSIDE, 0, 99).closed(STATE, CanalCompany::new).closed(STATE, () -> withShares(0)).check();
    }

    private static CanalCompany havingOnly(int shares, int times, int day) {
        CanalCompany x = new CanalCompany();
        x.shares(4, shares);
        x.shares(2, 999);
        for (int i = 0; i < times; i++) {
            x.pass(2, 3, 1, day);
        }
        return x;
    }

    private static Row passRow(int times, int latest, int many) {
        return row("37 pass", () -> passedTimes(times, latest), UNKNOWN, OUTSIDE, STATE, FULL).part(UNKNOWN, 0, 5, 4)
                .part(UNKNOWN, 0, 5, 1).part(OUTSIDE, 1, 999, many).part(OUTSIDE, latest, 99);
    }

    private static void passes() {
        passRow(0, 0, 1).closed(STATE, () -> havingOnly(0, 0, 0)).closed(FULL, () -> passedTimes(24, 0)).check();
        passRow(23, 20, 7).closed(STATE, () -> havingOnly(6, 23, 20)).closed(STATE, () -> havingOnly(6, 24, 20))
                .closed(FULL, () -> havingOnly(7, 24, 20)).closed(FULL, () -> passedTimes(24, 20)).check();
        passRow(1, 99, 999).closed(STATE, () -> havingOnly(998, 1, 99)).check();
        for (int same = 0; same < 6; same++) {
            CHECK.due("37 a and b are the same", passedTimes(0, 0).pass(same, same, 1, 0), UNKNOWN);
            CHECK.due("37 the same, and outside", passedTimes(1, 9).pass(same, same, 0, 8), UNKNOWN);
            CHECK.due("37 the same, and none", withShares(0).pass(same, same, 1, 0), UNKNOWN);
            CHECK.due("37 the same, and full", passedTimes(24, 0).pass(same, same, 1, 0), UNKNOWN);
        }
    }

    private static void railway() {
        row("40 rate", Canals::busy, OUTSIDE).part(OUTSIDE, 0, 999).check();
        row("41 over", Canals::busy, OUTSIDE).part(OUTSIDE, 0, 99).check();
        row("42 bestPence", Canals::busy, OUTSIDE).part(OUTSIDE, 0, 1).check();
    }

    private static CanalCompany withWorks(int many) {
        CanalCompany x = new CanalCompany();
        for (int i = 0; i < many; i++) {
            x.work(1 + i, 10 - i, i / 2 - 1);
        }
        return x;
    }

    private static void works() {
        for (int many : new int[] {0, 1, 7}) {
            row("43 work", () -> withWorks(many), UNKNOWN, OUTSIDE, FULL).part(OUTSIDE, 1, 999).part(OUTSIDE, 0, 999)
                    .part(UNKNOWN, NONE, many - 1).check();
        }
        // Where there are eight, a ninth may name the last of them and is refused as FULL.
        row("43 work", () -> withWorks(7), UNKNOWN, OUTSIDE, FULL).part(OUTSIDE, 1, 999).part(OUTSIDE, 0, 999)
                .choice(UNKNOWN, NONE, 7, 6).closed(FULL, () -> withWorks(8)).check();
        row("44 plan", () -> withWorks(8), OUTSIDE).part(OUTSIDE, 0, 9999).part(OUTSIDE, 0, 2).check();
    }

    private static void told() {
        row("45 count", Canals::busy, OUTSIDE).part(OUTSIDE, 0, 11).check();
        row("14 sum", Canals::busy, NONE).part(NONE, 0, 4).check();
    }

    private static CanalCompany withPage(int letters) {
        CanalCompany x = Canals.busy();
        x.blank();
        for (int i = 0; i < letters; i++) {
            x.letters('a');
        }
        return x;
    }

    private static void lettersRefused(int on, long w, int code) {
        CanalCompany x = withPage(on);
        String label = "15 letters(" + Long.toHexString(w) + ") behind " + on;
        CHECK.due(label, x.letters(w), code);
        CHECK.holds(label + " changed something", everything(x).equals(everything(withPage(on))));
    }

    private static void lettersOfAWord() {
        for (int place = 0; place < 8; place++) {
            long ones = 0x0101010101010101L >>> 8 * (7 - place);
            long below = ones & ~(0xffL << 8 * place);
            for (int letter = 1; letter < 256; letter++) {
                long w = below | (long) letter << 8 * place;
                if (letter <= 126) {
                    CHECK.due("15 code " + letter + " at " + place, withPage(3).letters(w), 3 + place + 1);
                } else {
                    lettersRefused(3, w, OUTSIDE);
                }
            }
            // A byte that is not 0 somewhere behind the first that is 0.
            for (int behind = place + 1; behind < 8; behind++) {
                lettersRefused(3, below | 1L << 8 * behind, OUTSIDE);
                lettersRefused(3, below | 126L << 8 * behind, OUTSIDE);
            }
            CHECK.due("15 up to the first 0", withPage(3).letters(below), 3 + place);
        }
        CHECK.due("15 eight", withPage(0).letters(0x7e7e7e7e7e7e7e7eL), 8);
        lettersRefused(0, -1L, OUTSIDE);
        lettersRefused(0, Long.MIN_VALUE, OUTSIDE);
        lettersRefused(0, Long.MAX_VALUE, OUTSIDE);
    }

    private static void lettersBeyondThePage() {
        for (int many = 1; many <= 8; many++) {
            long w = 0x0101010101010101L >>> 8 * (8 - many);
            CHECK.due("15 to 60", withPage(60 - many).letters(w), 60);
            lettersRefused(61 - many, w, FULL);
            lettersRefused(60, w, FULL);
            lettersRefused(60, w & ~0xffL | 127, OUTSIDE);
        }
        CHECK.due("15 none behind 60", withPage(60).letters(0), 60);
        lettersRefused(60, 0x0100L, OUTSIDE);
    }
}
