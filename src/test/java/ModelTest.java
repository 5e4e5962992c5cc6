import java.lang.reflect.Method;
import java.util.ArrayList;
import java.util.Arrays;
import java.util.Comparator;
import java.util.List;
import java.util.Random;

/** Random runs of 512 calls on CanalCompany and on Model: every answer has to be the same. */
public final class ModelTest {
    private static final int RUNS = 600, CALLS = 512;
    private static final Check CHECK = new Check();

    // The ranges of each call's arguments, by its name; "page" stands for the letters of a TEXT.
    private static final String[] RANGES = {
        "pound 0,7 0,2 0,1500", "summit 1,6", "lock 0,6 0,2 0,200", "taker 0,4 0,7 1,200 0,9", "as 0,11 0,4",
        "acts 0,11 0,2 0,599", "boat 0,7 0,7 0,40 1,9 0,3 0,3", "hour 0,50", "hours 1,30 0,50", "at 0,11 0,4",
        "lockIs 0,6 0,3", "now 0,7 0,2", "sum 0,4", "letters page", "blank", "fault", "text", "force 0,15 0,99 0,99",
        "speaks 0,1 0,11 0,99", "quarrel 0,1 0,11 0,99", "toll 0,11 0,99", "comer 0,1 0,23 0,60", "clear",
        "turn 0,17", "judge 0,511", "dry 0,1 0,60 0,90 0,60 0,90", "bank 0,2 1,40", "read 0,2 0,90 0,15", "unread",
        "find 0,1", "bill 0,11 0,99", "pay 0,3 0,2000", "debt 0,3 0,2 0,50", "failed 0,3 0,400", "shares 0,5 0,30",
        "pass 0,5 0,5 1,20 0,99", "had 0,5 0,99", "dividend 0,5 0,1000 0,99", "rate 0,999", "over 0,99",
        "bestPence 0,1", "work 1,40 0,30 -1,7", "plan 0,150 0,2", "count 0,11", "digest",
    };

    private final Random random;
    private final CanalCompany own = new CanalCompany();
    private final Model model = new Model();
    private String pending = "";

    private ModelTest(long seed) {
        random = new Random(seed);
    }

    public static void main(String[] args) throws ReflectiveOperationException {
        List<Method> methods = new ArrayList<>();
        for (Method m : CanalCompany.class.getDeclaredMethods()) {
            if (java.lang.reflect.Modifier.isPublic(m.getModifiers())) {
                methods.add(m);
            }
        }
        methods.sort(Comparator.comparing(Method::getName));
        CHECK.due("how many calls the face has", methods.size(), RANGES.length);
        for (int seed = 0; seed < RUNS; seed++) {
            if (!new ModelTest(seed).run(methods, seed)) {
                break;
            }
        }
        linesAlone();
        turnsAlone();
        CHECK.end();
    }

    private boolean run(List<Method> methods, int seed) throws ReflectiveOperationException {
        // Each run prefers a few of the calls, so that some state grows deep.
        int[] weight = new int[methods.size()];
        for (int i = 0; i < weight.length; i++) {
            weight[i] = 1 + (random.nextInt(4) == 0 ? 8 : 0);
        }
        List<String> told = new ArrayList<>();
        for (int i = 0; i < CALLS; i++) {
            Method m = choose(methods, weight);
            Object[] args = argumentsFor(m);
            long got = ((Number) m.invoke(own, args)).longValue();
            long want = ((Number) Model.class.getMethod(m.getName(), m.getParameterTypes()).invoke(model, args)).longValue();
            told.add(m.getName() + Arrays.toString(args) + " " + got);
            CHECK.due("run " + seed + " call " + i + " " + m.getName() + Arrays.toString(args), got, want);
            CHECK.due("run " + seed + " digest behind call " + i + " " + m.getName() + Arrays.toString(args),
                    own.digest(), model.digest());
            if (got != want) {
                System.out.println(String.join("\n", told));
                return false;
            }
        }
        return true;
    }

    private Method choose(List<Method> methods, int[] weight) {
        int all = Arrays.stream(weight).sum();
        int at = random.nextInt(all);
        int i = 0;
        while (at >= weight[i]) {
            at -= weight[i];
            i++;
        }
        // A page that has been begun is mostly written on.
        if (!pending.isEmpty() && random.nextInt(3) > 0) {
            for (Method m : methods) {
                if (m.getName().equals("letters")) {
                    return m;
                }
            }
        }
        return methods.get(i);
    }

    private Object[] argumentsFor(Method m) {
        String row = "";
        for (String r : RANGES) {
            if (r.equals(m.getName()) || r.startsWith(m.getName() + " ")) {
                row = r;
            }
        }
        String[] parts = row.split(" ");
        Class<?>[] types = m.getParameterTypes();
        Object[] args = new Object[types.length];
        for (int i = 0; i < types.length; i++) {
            if (types[i] == long.class) {
                args[i] = nextLetters();
            } else if (types[i] == boolean.class) {
                args[i] = random.nextBoolean();
            } else {
                args[i] = number(parts[i + 1]);
            }
        }
        if (m.getName().equals("judge") && random.nextBoolean()) {
            args[0] = someOrder();
        }
        return args;
    }

    private int number(String range) {
        int comma = range.indexOf(',');
        int least = Integer.parseInt(range.substring(0, comma));
        int most = Integer.parseInt(range.substring(comma + 1));
        switch (random.nextInt(40)) {
            case 0:
                return least - 1;
            case 1:
                return most + 1;
            case 2:
                int[] odd = {Integer.MIN_VALUE, Integer.MAX_VALUE, -1, 9999, 10000, 999, 1000};
                return odd[random.nextInt(odd.length)];
            case 3:
                return least;
            case 4:
                return most;
            default:
                return least + random.nextInt(most - least + 1);
        }
    }

    private int someOrder() {
        List<Integer> all = new ArrayList<>();
        for (int i = 0; i < model.count(5); i++) {
            all.add(i);
        }
        java.util.Collections.shuffle(all, random);
        int order = 0;
        for (int c : all) {
            order = 8 * order + c;
        }
        return order;
    }

    private long nextLetters() {
        if (random.nextInt(60) == 0) {
            return random.nextLong();
        }
        if (pending.isEmpty()) {
            pending = someText();
        }
        int many = Math.min(pending.length(), 1 + random.nextInt(8));
        long w = 0;
        for (int i = many - 1; i >= 0; i--) {
            w = w << 8 | pending.charAt(i);
        }
        pending = pending.substring(many);
        return w;
    }

    private String someText() {
        StringBuilder s = new StringBuilder(random.nextInt(3) > 0 ? "T:" : "C:");
        s.append(random.nextBoolean() ? random.nextInt(4) : random.nextInt(10000));
        if (random.nextInt(4) > 0) {
            s.append('?').append(someCondition(0));
        }
        if (random.nextInt(12) == 0) {
            s.setCharAt(random.nextInt(s.length()), "TC:?!()lmgcd<=>0123456789&|x".charAt(random.nextInt(28)));
        }
        return s.toString();
    }

    private String someCondition(int depth) {
        StringBuilder s = new StringBuilder(someFactor(depth));
        while (random.nextInt(3) == 0) {
            s.append("&|".charAt(random.nextInt(2))).append(someFactor(depth));
        }
        return s.toString();
    }

    private String someFactor(int depth) {
        int sort = random.nextInt(5);
        if (sort == 0 && depth < 6) {
            return "!" + someFactor(depth + 1);
        }
        if (sort == 1 && depth < 6) {
            return "(" + someCondition(depth + 1) + ")";
        }
        int[] mosts = {41, 41, 4, 4, 100};
        int name = random.nextInt(5);
        return "lmgcd".charAt(name) + "" + "<=>".charAt(random.nextInt(3)) + random.nextInt(mosts[name]);
    }

    /**
     * Whole canals until all HOURS have gone by: in the mixed runs POUNDS are told so often that few BOATS
     * come far, and the LOCKS seldom meet BOATS from both sides.
     */
    private static void linesAlone() {
        int went = 0;
        int waited = 0;
        for (int seed = 0; seed < 400; seed++) {
            ModelTest run = new ModelTest(seed);
            run.setUpLine();
            for (int left = 600; left > 0; ) {
                int n = Math.min(left, 1 + run.random.nextInt(25));
                int rain = run.random.nextInt(3) == 0 ? run.random.nextInt(51) : run.random.nextInt(4);
                int many = run.own.hours(n, rain);
                CHECK.due("line " + seed + " hours", many, run.model.hours(n, rain));
                run.tellBoat();
                CHECK.due("line " + seed + " digest", run.own.digest(), run.model.digest());
                went += many;
                left -= n;
            }
            for (int i = 0; i < run.own.count(2); i++) {
                waited += run.own.at(i, 3);
            }
        }
        CHECK.holds("BOATS went through LOCKS " + went + " times and waited " + waited + " HOURS",
                went > 10000 && waited > 10000);
    }

    private void setUpLine() {
        int top = 1 + random.nextInt(6);
        CHECK.due("summit", own.summit(top), model.summit(top));
        for (int i = 0; i < 8; i++) {
            int least = random.nextInt(700);
            CHECK.due("pound", own.pound(i, 2, least), model.pound(i, 2, least));
            int full = 1000 + random.nextInt(2) * random.nextInt(2000);
            CHECK.due("pound", own.pound(i, 1, full), model.pound(i, 1, full));
        }
        for (int i = 0; i < 7; i++) {
            int[] told = {10 + random.nextInt(191), random.nextInt(2), random.nextInt(3)};
            for (int what = 0; what < 3; what++) {
                CHECK.due("lock", own.lock(i, what, told[what]), model.lock(i, what, told[what]));
            }
        }
        for (int i = random.nextInt(13); i > 0; i--) {
            int sort = random.nextInt(5);
            int pound = random.nextInt(8);
            int amount = 1 + random.nextInt(sort < 2 ? 12 : 40);
            int rank = random.nextInt(10);
            CHECK.due("taker", own.taker(sort, pound, amount, rank), model.taker(sort, pound, amount, rank));
        }
        for (int i = random.nextInt(9); i > 0; i--) {
            tellBoat();
        }
    }

    private void tellBoat() {
        int from = random.nextInt(8);
        int to = random.nextInt(8);
        int load = random.nextInt(41);
        int pace = 1 + random.nextInt(1 + random.nextInt(9));
        CHECK.due("boat", own.boat(from, to, load, pace, 0, 0), model.boat(from, to, load, pace, 0, 0));
    }

    /** THE BEST for many sets of COMERS, tight and loose ones. */
    private static void turnsAlone() {
        Random random = new Random(7);
        for (int i = 0; i < 1500; i++) {
            CanalCompany own = new CanalCompany();
            Model model = new Model();
            int many = i % 50 == 0 ? 7 + i / 50 % 2 : random.nextInt(7);
            int span = 1 + random.nextInt(12);
            int slack = 1 + random.nextInt(14);
            for (int c = 0; c < many; c++) {
                boolean up = random.nextBoolean();
                int from = random.nextInt(span);
                int by = Math.min(99, from + random.nextInt(2) * many + random.nextInt(slack));
                own.comer(up, from, by);
                model.comer(up, from, by);
            }
            for (int what = 0; what < 18; what++) {
                int place = what;
                CHECK.due("turn(" + place + ") of set " + i, own.turn(place), model.turn(place));
            }
        }
    }
}
