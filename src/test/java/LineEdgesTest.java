/** The edges that the document names for the line: each test has the sentence that it holds. */
public final class LineEdgesTest {
    private static final int NONE = -1;
    private static final Check CHECK = new Check();

    public static void main(String[] args) {
        rainToTheBrim();
        takenToTheBottom();
        givenToTheBrim();
        neverAboveFull();
        hoursOfAMill();
        leakRoundedDown();
        tenthOfAPump();
        castsThatFail();
        ranksFromLeastToMost();
        likeRanksByNumber();
        numberedToTheLast();
        readyFromAnHourOn();
        readyBehindTheLastHour();
        halfALockful();
        withoutASide();
        overTheLowerWeir();
        upThroughAnEmptyOne();
        upThroughAFilledOne();
        downThroughAnEmptyOne();
        downThroughAFilledOne();
        higherTowardsTheSummit();
        leastAndFiveTimesLoad();
        asItIsAhead();
        rainThenTakersThenLocks();
        locksFromNoughtOn();
        oneThatCameIsNotLookedAt();
        nobodyElseGoes();
        ofLikeLoadsTheLeastNumber();
        standsRight();
        waitedReady();
        miles();
        lastHours();
        rainOfManyHours();
        takenBelowNothing();
        CHECK.end();
    }

    private static void due(String what, long got, long want) {
        CHECK.due(what, got, want);
    }

    /** All POUNDS half empty, and so low that every BOAT may go. */
    private static CanalCompany roomy() {
        CanalCompany x = new CanalCompany();
        for (int i = 0; i < 8; i++) {
            x.pound(i, 0, 500);
            x.pound(i, 2, 0);
        }
        return x;
    }

    /** "RAIN comes into each POUND, what is then above FULL is LOST." */
    private static void rainToTheBrim() {
        for (int rain = 0; rain <= 50; rain++) {
            CanalCompany x = roomy();
            x.pound(2, 0, 1000 - rain);
            x.hour(rain);
            due("9 to FULL", x.now(2, 0), 1000);
            due("9 nothing is LOST at FULL", x.sum(2), 0);
            due("9 the others", x.now(7, 0), 500 + rain);
            due("14 RAIN", x.sum(0), 8 * rain);
            CanalCompany y = roomy();
            y.pound(2, 0, Math.min(1000, 1001 - rain));
            y.hour(rain);
            due("9 no more than FULL", y.now(2, 0), 1000);
            due("9 what is above it is LOST", y.sum(2), rain == 0 ? 0 : 1);
            due("14 RAIN that is LOST came too", y.sum(0), 8 * rain);
        }
    }

    /** "each takes what it TAKES, but no more than WATER" */
    private static void takenToTheBottom() {
        for (int amount : new int[] {1, 2, 100, 199, 200}) {
            for (int more = -1; more <= 1; more++) {
                CanalCompany x = roomy();
                x.pound(4, 0, amount + more);
                x.taker(0, 4, amount, 0);
                x.hour(0);
                due("9 left", x.now(4, 0), Math.max(0, more));
                due("7 took", x.acts(0, 2, 0), Math.min(amount, amount + more));
                due("14 taken", x.sum(1), Math.min(amount, amount + more));
                due("7 TAKES does not look at WATER", x.acts(0, 0, 0), amount);
            }
        }
        CanalCompany x = roomy();
        x.pound(4, 0, 19);
        x.taker(1, 4, 20, 0);
        x.hours(7, 0);
        due("9 a MILL takes no more than WATER", x.acts(0, 2, 0), 19);
        x.hours(7, 0);
        due("9 nothing of nothing", x.acts(0, 2, 0), 19);
    }

    /** "what a FEEDER gives above FULL is LOST"; "a PUMP is a FEEDER". */
    private static void givenToTheBrim() {
        for (int sort = 3; sort <= 4; sort++) {
            for (int amount : new int[] {1, 100, 200}) {
                int gives = sort == 3 ? amount : 2 * amount;
                for (int more = -1; more <= 1; more++) {
                    CanalCompany x = roomy();
                    x.pound(4, 0, Math.min(1000, 1000 - gives + more));
                    x.taker(sort, 4, amount, 0);
                    x.hour(0);
                    due("9 to FULL", x.now(4, 0), more < 0 ? 999 : 1000);
                    due("9 LOST", x.sum(2), more > 0 ? 1 : 0);
                    due("7 gave", x.acts(0, 2, 0), -gives);
                    due("14 given", x.sum(1), 1000000 + gives);
                }
            }
        }
    }

    /** "WATER is never above it" */
    private static void neverAboveFull() {
        CanalCompany x = new CanalCompany();
        for (int i = 0; i < 8; i++) {
            x.pound(i, 0, 100);
            x.pound(i, 1, 100);
            x.pound(i, 2, 0);
            x.taker(4, i, 200, i);
        }
        for (int i = 0; i < 7; i++) {
            x.lock(i, 0, 200);
        }
        for (int i = 0; i < 6; i++) {
            x.boat(i, 7, 0, 1, 0, 0);
            x.boat(7 - i, 0, 0, 1, 0, 0);
        }
        for (int hour = 0; hour < 40; hour++) {
            x.hour(50);
            for (int i = 0; i < 8; i++) {
                CHECK.holds("2 WATER above FULL in POUND " + i, x.now(i, 0) <= 100 && x.now(i, 0) >= 0);
            }
        }
    }

    /** "a MILL what a TAKER does in HOURS whose rest by 24 is 6 to 17, else 0" */
    private static void hoursOfAMill() {
        CanalCompany x = roomy();
        x.taker(1, 0, 1, 0);
        for (int hour = 0; hour < 60; hour++) {
            int rest = hour % 24;
            due("7 in HOUR " + hour, x.acts(0, 0, hour), rest >= 6 && rest <= 17 ? 1 : 0);
            int late = hour + 540;
            due("7 in HOUR " + late, x.acts(0, 0, late), late % 24 >= 6 && late % 24 <= 17 ? 1 : 0);
            int before = x.now(0, 0);
            x.hour(0);
            due("9 HOUR " + hour, before - x.now(0, 0), rest >= 6 && rest <= 17 ? 1 : 0);
        }
    }

    /** "a LEAK what a TAKER does times WATER by FULL, rounded down" */
    private static void leakRoundedDown() {
        CanalCompany x = new CanalCompany();
        x.taker(2, 0, 1, 0);
        x.taker(2, 0, 200, 0);
        x.taker(2, 0, 3, 0);
        due("7 at FULL", x.acts(0, 0, 0), 1);
        due("7 at FULL", x.acts(1, 0, 0), 200);
        x.pound(0, 0, 999);
        due("7 a little below FULL", x.acts(0, 0, 0), 0);
        due("7 a little below FULL", x.acts(1, 0, 0), 199);
        due("7 a little below FULL", x.acts(2, 0, 0), 2);
        x.pound(0, 0, 5);
        due("7 a two hundredth", x.acts(1, 0, 0), 1);
        x.pound(0, 0, 4);
        due("7 less than a two hundredth", x.acts(1, 0, 0), 0);
        x.pound(0, 0, 0);
        due("7 EMPTY", x.acts(1, 0, 0), 0);
        x.pound(0, 1, 9999);
        x.pound(0, 0, 9999);
        due("7 the greatest", x.acts(1, 0, 599), 200);
        x.pound(0, 0, 9998);
        due("7 a little below the greatest", x.acts(1, 0, 599), 199);
        x.pound(0, 0, 50);
        x.pound(0, 1, 100);
        due("7 the least FULL", x.acts(2, 0, 0), 1);
        x.hour(0);
        due("9 0 of 1", x.acts(0, 2, 0), 0);
        due("9 half of 200, but no more than WATER", x.acts(1, 2, 0), 50);
        due("9 nothing is left", x.acts(2, 2, 0), 0);
    }

    /** "a PUMP what a FEEDER does and a tenth of its AMOUNT (rounded down)" and the other COSTS. */
    private static void tenthOfAPump() {
        for (int amount = 1; amount <= 200; amount++) {
            CanalCompany x = new CanalCompany();
            int[] costs = {0, 3, 0, 1, 1 + amount / 10};
            for (int sort = 0; sort < 5; sort++) {
                x.taker(sort, 7, amount, 9);
                due("7 COST of SORT " + sort + " of " + amount, x.acts(sort, 1, 599), costs[sort]);
            }
        }
    }

    /** "A TAKER taken as a SORT: its number; NONE: it is none such (the cast fails)." */
    private static void castsThatFail() {
        String[] sorts = {"0", "01", "02", "03", "034"};
        CanalCompany x = new CanalCompany();
        for (int i = 0; i < 10; i++) {
            x.taker(i % 5, 0, 1, 0);
            for (int asked = 0; asked < 5; asked++) {
                boolean is = sorts[i % 5].contains(String.valueOf(asked));
                due("6 SORT " + i % 5 + " as " + asked, x.as(i, asked), is ? i : NONE);
            }
        }
    }

    /** "TAKERS, of least RANK first": 0 ahead of all, 9 behind all, in whatever order they were told. */
    private static void ranksFromLeastToMost() {
        int[] ranks = {4, 9, 0, 7, 2, 5, 1, 8, 3, 6};
        CanalCompany x = roomy();
        x.pound(1, 0, 45);
        for (int rank : ranks) {
            x.taker(0, 1, 10, rank);
        }
        x.hour(0);
        for (int i = 0; i < ranks.length; i++) {
            int want = ranks[i] < 4 ? 10 : ranks[i] == 4 ? 5 : 0;
            due("9 RANK " + ranks[i], x.acts(i, 2, 0), want);
        }
    }

    /** "of like ones by number" */
    private static void likeRanksByNumber() {
        for (int rank = 0; rank <= 9; rank += 9) {
            CanalCompany x = roomy();
            x.pound(1, 0, 95);
            for (int i = 0; i < 12; i++) {
                x.taker(0, 1, 10, rank);
            }
            x.hour(0);
            for (int i = 0; i < 12; i++) {
                due("9 number " + i, x.acts(i, 2, 0), i < 9 ? 10 : i == 9 ? 5 : 0);
            }
        }
    }

    /** "TAKERS (12 at most, numbered)", "BOATS (12 at most, numbered)": the twelfth is as good as the first. */
    private static void numberedToTheLast() {
        CanalCompany x = roomy();
        for (int i = 0; i < 12; i++) {
            due("5 number", x.taker(0, i % 8, 1 + i, 0), i);
            due("45 TAKERS", x.count(1), i + 1);
            due("8 number", x.boat(i % 7, i % 7 + 1, i, 1, 0, 0), i);
            due("45 BOATS", x.count(2), i + 1);
        }
        x.hour(0);
        due("9 the twelfth takes", x.acts(11, 2, 0), 12);
        for (int i = 0; i < 8; i++) {
            x.pound(i, 0, 1000);
        }
        x.hours(1, 0);
        due("9 of least number", x.at(4, 0), 5);
        x.hours(1, 0);
        due("9 the twelfth goes too", x.at(11, 0), 5);
    }

    /** "READY at the next LOCK towards its goal from HOUR h and PACE on" */
    private static void readyFromAnHourOn() {
        for (int pace = 1; pace <= 9; pace++) {
            for (int told = 0; told < 3; told++) {
                CanalCompany x = roomy();
                Canals.passHours(x, told);
                x.boat(2, 0, 0, pace, 0, 0);
                due("11 READY", x.at(0, 1), told + pace);
                due("9 not in the HOURS ahead", x.hours(pace, 0), 0);
                due("11 did not wait", x.at(0, 3), 0);
                due("9 in that HOUR", x.hour(0), 1);
                due("11 READY again", x.at(0, 1), told + 2 * pace);
                due("11 has not come", x.at(0, 2), 0);
                due("45 none has come", x.count(3), 0);
                due("9 not in the HOURS ahead", pace == 1 ? 0 : x.hours(pace - 1, 0), 0);
                due("9 in that HOUR", x.hour(0), 1);
                due("11 has come", x.at(0, 1), NONE);
                due("11 has come", x.at(0, 2), 1);
                due("45 one has come", x.count(3), 1);
                due("9 it goes no more", x.hours(20, 0), 0);
                due("11 it waits no more", x.at(0, 3), 0);
            }
        }
    }

    /** "AN HOUR goes by (600 at most)": a BOAT may be READY behind the last of them. */
    private static void readyBehindTheLastHour() {
        CanalCompany x = roomy();
        Canals.passHours(x, 599);
        x.boat(0, 7, 0, 9, 0, 0);
        due("11 told in HOUR 599", x.at(0, 1), 608);
        due("9 the last HOUR", x.hour(0), 0);
        x.boat(0, 7, 0, 9, 0, 0);
        due("11 told behind the last HOUR", x.at(1, 1), 609);
        due("45 HOURS", x.count(0), 600);
    }

    /** "KEPT (0 at first), at most half a LOCKFUL (rounded down)" and "the rest of a LOCKFUL". */
    private static void halfALockful() {
        for (int lockful = 10; lockful <= 200; lockful++) {
            int half = lockful / 2;
            CanalCompany x = roomy();
            x.lock(0, 0, lockful);
            x.lock(0, 1, 1);
            x.boat(1, 0, 0, 1, 0, 0);
            x.boat(1, 0, 0, 2, 0, 0);
            x.boat(0, 1, 0, 3, 0, 0);
            x.boat(0, 1, 0, 4, 0, 0);
            due("12 KEPT at first", x.lockIs(0, 1), 0);
            x.hours(2, 0);
            due("9 a whole LOCKFUL", x.now(1, 0), 500 - lockful);
            due("12 half is KEPT", x.lockIs(0, 1), half);
            due("9 the rest goes down", x.now(0, 0), 500 + lockful - half);
            due("14 in SIDES", x.sum(4), half);
            x.hour(0);
            due("9 KEPT, and the rest", x.now(1, 0), 500 - 2 * lockful + half);
            due("12 half is KEPT again", x.lockIs(0, 1), half);
            due("9 the rest goes down again", x.now(0, 0), 500 + 2 * (lockful - half));
            x.hour(0);
            due("9 up through an EMPTY one", x.now(1, 0), 500 - 3 * lockful + 2 * half);
            due("12 nothing is KEPT", x.lockIs(0, 1), 0);
            due("14 in LOCKS", x.sum(4), lockful);
            x.hour(0);
            due("9 up through a filled one", x.now(1, 0), 500 - 4 * lockful + 3 * half);
            due("9 the lower one gets the rest", x.now(0, 0), 500 + 3 * (lockful - half));
            due("12 nothing is KEPT", x.lockIs(0, 1), 0);
            due("12 FILLED four times", x.lockIs(0, 3), 4);
            due("14 in LOCKS", x.sum(4), lockful);
        }
    }

    /** "a SIDE, or none (at first)" */
    private static void withoutASide() {
        for (int lockful : new int[] {10, 11, 100, 199, 200}) {
            CanalCompany x = roomy();
            x.lock(0, 0, lockful);
            x.boat(1, 0, 0, 1, 0, 0);
            x.boat(0, 1, 0, 2, 0, 0);
            x.hours(2, 0);
            due("12 nothing is KEPT", x.lockIs(0, 1), 0);
            due("9 a whole LOCKFUL", x.now(1, 0), 500 - lockful);
            due("9 a whole LOCKFUL", x.now(0, 0), 500 + lockful);
            x.hour(0);
            due("9 another whole LOCKFUL", x.now(1, 0), 500 - 2 * lockful);
        }
    }

    /** "the rest goes into the lower POUND; what is above FULL there is LOST over the weir" */
    private static void overTheLowerWeir() {
        for (int side = 0; side <= 1; side++) {
            int comes = side == 0 ? 101 : 51;
            for (int more = -1; more <= 1; more++) {
                CanalCompany x = roomy();
                x.lock(0, 0, 101);
                x.lock(0, 1, side);
                x.pound(0, 0, 1000 - comes + more);
                x.boat(1, 0, 0, 1, 0, 0);
                x.hours(2, 0);
                due("9 to FULL", x.now(0, 0), more < 0 ? 999 : 1000);
                due("14 LOST", x.sum(2), more > 0 ? 1 : 0);
                CanalCompany y = roomy();
                y.lock(0, 0, 101);
                y.lock(0, 1, side);
                y.boat(0, 1, 0, 1, 0, 0);
                y.boat(0, 1, 0, 2, 0, 0);
                y.hours(2, 0);
                y.pound(0, 0, 1000 - comes + more);
                y.hour(0);
                due("9 EMPTIED for one that goes up", y.now(0, 0), more < 0 ? 999 : 1000);
                due("14 LOST", y.sum(2), more > 0 ? 1 : 0);
            }
        }
    }

    /** Whether a BOAT without LOAD goes through LOCK 0, which stands as told, with so much above it. */
    private static void goes(String label, boolean up, boolean filled, int side, int lockful, int needs) {
        for (int more = -1; more <= 1; more++) {
            if (needs + more < 0) {
                continue;
            }
            CanalCompany x = roomy();
            x.lock(0, 0, lockful);
            x.lock(0, 1, side);
            // One that went up leaves the LOCK filled and nothing KEPT; one that went down, EMPTY.
            x.boat(filled ? 0 : 1, filled ? 1 : 0, 0, 1, 0, 0);
            x.hours(2, 0);
            x.boat(up ? 0 : 1, up ? 1 : 0, 0, 1, 0, 0);
            x.hour(0);
            x.pound(1, 0, needs + more);
            int fillings = x.lockIs(0, 3);
            int passed = x.lockIs(0, 2);
            due(label + " with " + (needs + more) + " above", x.hour(0), more < 0 ? 0 : 1);
            due(label + " left above", x.now(1, 0), more < 0 ? needs - 1 : more);
            due(label + " FILLED", x.lockIs(0, 3), fillings + (more < 0 || filled && !up ? 0 : 1));
            due(label + " went through", x.lockIs(0, 2), passed + (more < 0 ? 0 : 1));
            boolean stands = more < 0 ? filled : up;
            due(label + " stands", x.lockIs(0, 0), stands ? 1 : 0);
        }
    }

    /** "It may not, if it needs a FILLING (up always ..), and the UPPER POUND has less than that would take" */
    private static void upThroughAnEmptyOne() {
        for (int lockful : new int[] {10, 11, 99, 100, 199, 200}) {
            goes("9 up through an EMPTY one", true, false, 0, lockful, lockful);
            goes("9 up through an EMPTY one with KEPT", true, false, 1, lockful, lockful - lockful / 2);
        }
    }

    /** ".. (by KEPT as it would be then)": half is KEPT by the EMPTYING that goes ahead. */
    private static void upThroughAFilledOne() {
        for (int lockful : new int[] {10, 11, 99, 100, 199, 200}) {
            goes("9 up through a filled one", true, true, 0, lockful, lockful);
            goes("9 up through a filled one with a SIDE", true, true, 1, lockful, lockful - lockful / 2);
        }
    }

    /** ".. (.. down through an EMPTY one)" */
    private static void downThroughAnEmptyOne() {
        for (int lockful : new int[] {10, 11, 99, 100, 199, 200}) {
            goes("9 down through an EMPTY one", false, false, 0, lockful, lockful);
            goes("9 down through an EMPTY one with KEPT", false, false, 1, lockful, lockful - lockful / 2);
        }
    }

    /** Down through a filled one needs no FILLING, and so nothing above. */
    private static void downThroughAFilledOne() {
        for (int lockful : new int[] {10, 11, 200}) {
            goes("9 down through a filled one", false, true, 0, lockful, 0);
            goes("9 down through a filled one with a SIDE", false, true, 1, lockful, 0);
        }
    }

    /** "from both ends POUNDS lie higher towards it": into THE SUMMIT is up, out of it is down. */
    private static void higherTowardsTheSummit() {
        for (int summit = 1; summit <= 6; summit++) {
            for (int side = -1; side <= 1; side += 2) {
                int lock = side < 0 ? summit - 1 : summit;
                CanalCompany in = roomy();
                in.summit(summit);
                in.boat(summit + side, summit, 0, 1, 0, 0);
                in.hours(2, 0);
                due("9 into THE SUMMIT: filled", in.lockIs(lock, 0), 1);
                due("9 a LOCKFUL of THE SUMMIT", in.now(summit, 0), 400);
                due("9 nothing of the other", in.now(summit + side, 0), 500);
                CanalCompany out = roomy();
                out.summit(summit);
                out.boat(summit, summit + side, 0, 1, 0, 0);
                out.hours(2, 0);
                due("9 out of THE SUMMIT: EMPTY", out.lockIs(lock, 0), 0);
                due("9 a LOCKFUL of THE SUMMIT", out.now(summit, 0), 400);
                due("9 and into the other", out.now(summit + side, 0), 600);
            }
        }
    }

    /** "or if the POUND that it comes into has .. less than LEAST and 5 times LOAD" */
    private static void leastAndFiveTimesLoad() {
        for (int load : new int[] {0, 1, 39, 40}) {
            for (int least : new int[] {0, 1, 500, 800}) {
                for (int more = -1; more <= 0; more++) {
                    int water = least + 5 * load + more;
                    boolean may = more == 0;
                    if (water >= 0) {
                        CanalCompany down = roomy();
                        down.pound(0, 2, least);
                        down.pound(0, 0, water);
                        down.boat(1, 0, load, 1, 0, 0);
                        due("9 down to " + water, down.hours(2, 0), may ? 1 : 0);
                    }
                    if (water >= 100) {
                        CanalCompany up = roomy();
                        up.pound(1, 2, least);
                        up.pound(1, 0, water);
                        up.boat(0, 1, load, 1, 0, 0);
                        due("9 up to " + water, up.hours(2, 0), may ? 1 : 0);
                    }
                }
            }
        }
        CanalCompany x = roomy();
        x.pound(0, 1, 9999);
        x.pound(0, 0, 9999);
        x.pound(0, 2, 9999);
        x.boat(1, 0, 0, 1, 0, 0);
        x.boat(1, 0, 1, 2, 0, 0);
        due("9 the greatest LEAST", x.hours(2, 0), 1);
        due("9 and LOAD", x.hours(2, 0), 0);
    }

    /** ".. has, as it is ahead": what the LOCK itself takes of it or brings to it does not count. */
    private static void asItIsAhead() {
        CanalCompany up = roomy();
        up.pound(1, 2, 500);
        up.boat(0, 1, 0, 1, 0, 0);
        due("9 just LEAST, ahead of the FILLING", up.hours(2, 0), 1);
        due("9 below it then", up.now(1, 0), 400);
        CanalCompany down = roomy();
        down.pound(0, 2, 501);
        down.boat(1, 0, 0, 1, 0, 0);
        due("9 below LEAST, ahead of the EMPTYING", down.hours(2, 0), 0);
        // The LOCK is EMPTIED into the POUND behind, which then has more; the one ahead does not.
        CanalCompany again = roomy();
        again.boat(0, 1, 0, 1, 0, 0);
        again.boat(0, 1, 0, 2, 0, 0);
        again.hours(2, 0);
        again.pound(1, 2, 401);
        due("9 below LEAST by one", again.hour(0), 0);
        again.pound(1, 2, 400);
        due("9 at LEAST", again.hour(0), 1);
    }

    /** "(1) RAIN comes .. (2) TAKERS .. (3) LOCKS" */
    private static void rainThenTakersThenLocks() {
        CanalCompany x = roomy();
        x.pound(1, 0, 50);
        x.taker(0, 1, 60, 0);
        x.hour(10);
        due("9 RAIN is ahead of TAKERS", x.acts(0, 2, 0), 60);
        due("9 nothing is left", x.now(1, 0), 0);
        CanalCompany y = roomy();
        y.pound(1, 0, 60);
        y.boat(0, 1, 0, 1, 0, 0);
        y.hour(0);
        due("9 RAIN is ahead of LOCKS", y.hour(40), 1);
        CanalCompany z = roomy();
        z.pound(1, 0, 102);
        z.taker(0, 1, 1, 0);
        z.boat(0, 1, 0, 1, 0, 0);
        z.hour(0);
        z.pound(1, 0, 100);
        due("9 TAKERS are ahead of LOCKS", z.hour(0), 0);
        z.pound(1, 0, 101);
        due("9 and leave enough", z.hour(0), 1);
        // A FEEDER behind a TAKER gives nothing to it in this HOUR.
        CanalCompany w = roomy();
        w.pound(1, 0, 0);
        w.taker(0, 1, 10, 1);
        w.taker(3, 1, 10, 2);
        w.hour(0);
        due("9 a FEEDER of greater RANK", w.acts(0, 2, 0), 0);
        w.hour(0);
        due("9 in the next HOUR", w.acts(0, 2, 0), 10);
    }

    /** "LOCKS from 0 on": LOCK 1 finds what LOCK 0 has left, and not the other way round. */
    private static void locksFromNoughtOn() {
        CanalCompany x = roomy();
        x.boat(1, 2, 0, 1, 0, 0);
        x.hours(2, 0);
        x.boat(1, 2, 0, 1, 0, 0);
        x.boat(0, 1, 0, 1, 0, 0);
        x.hour(0);
        x.pound(1, 0, 99);
        due("9 LOCK 1 alone", x.hour(0), 1);
        due("9 LOCK 0 came too early for it", x.at(2, 0), 0);
        due("9 LOCK 1 was EMPTIED into POUND 1", x.now(1, 0), 199);
        due("9 LOCK 0 in the next HOUR", x.hour(0), 1);
        CanalCompany y = roomy();
        y.boat(2, 1, 0, 1, 0, 0);
        y.boat(0, 1, 0, 1, 0, 0);
        y.pound(1, 2, 401);
        due("9 both are READY", y.hours(2, 0), 1);
        due("9 LOCK 0 took from POUND 1 first", y.at(1, 2), 1);
        due("9 so that LOCK 1 may not", y.at(0, 2), 0);
    }

    /** "(One that came this HOUR is not looked at.)" */
    private static void oneThatCameIsNotLookedAt() {
        CanalCompany x = roomy();
        x.summit(6);
        x.boat(0, 7, 0, 1, 0, 0);
        for (int hour = 0; hour < 8; hour++) {
            due("9 one LOCK in HOUR " + hour, x.hour(0), hour == 0 ? 0 : 1);
            due("11 POUND behind HOUR " + hour, x.at(0, 0), hour);
        }
        due("11 has come", x.at(0, 2), 1);
        due("11 never waited", x.at(0, 3), 0);
    }

    /** "then nobody goes there in this HOUR" */
    private static void nobodyElseGoes() {
        for (int rule = 0; rule <= 2; rule++) {
            CanalCompany x = roomy();
            x.lock(0, 2, rule);
            x.pound(1, 2, 400);
            x.boat(0, 1, 40, 1, 0, 0);
            x.boat(1, 0, 0, 1, 0, 0);
            x.boat(4, 5, 0, 1, 0, 0);
            x.hour(0);
            due("9 the other LOCKS do not mind", x.hour(0), 1);
            due("9 the one that may not", x.at(0, 2), 0);
            due("9 the one that might", x.at(1, 2), 0);
            due("11 both waited", x.at(0, 3) + x.at(1, 3), 2);
            x.pound(1, 2, 0);
            due("9 then it goes", x.hour(0), 1);
            due("9 then it goes", x.at(0, 2), 1);
        }
    }

    /** "1: of greatest LOAD, of like ones of least number" */
    private static void ofLikeLoadsTheLeastNumber() {
        int[] loads = {39, 40, 0, 40, 39, 0};
        int[] order = {1, 3, 0, 4, 2, 5};
        CanalCompany x = new CanalCompany();
        x.lock(0, 2, 1);
        x.pound(0, 2, 0);
        x.pound(1, 2, 0);
        for (int i = 0; i < loads.length; i++) {
            x.boat(i % 2, 1 - i % 2, loads[i], 1, 0, 0);
        }
        x.hour(0);
        for (int i = 0; i < order.length; i++) {
            due("9 one goes", x.hour(0), 1);
            due("9 place " + i, x.at(order[i], 2), 1);
        }
        CanalCompany y = new CanalCompany();
        y.pound(0, 2, 0);
        y.pound(1, 2, 0);
        for (int i = 0; i < loads.length; i++) {
            y.boat(i % 2, 1 - i % 2, loads[i], 1, 0, 0);
        }
        y.hour(0);
        for (int i = 0; i < loads.length; i++) {
            y.hour(0);
            due("9 RULE 0: of least number", y.at(i, 2), 1);
        }
    }

    /** "2: one for which the LOCK stands right .., if there is one, of least number, else of least number" */
    private static void standsRight() {
        boolean[] ups = {false, false, true, true, false};
        int[] order = {2, 0, 3, 1, 4};
        CanalCompany x = roomy();
        x.lock(0, 2, 2);
        for (boolean up : ups) {
            x.boat(up ? 0 : 1, up ? 1 : 0, 0, 1, 0, 0);
        }
        x.hour(0);
        for (int i = 0; i < order.length; i++) {
            due("9 one goes", x.hour(0), 1);
            due("9 place " + i, x.at(order[i], 2), 1);
        }
        due("12 FILLED for each that went up, and for the last", x.lockIs(0, 3), 3);
        // On the far side of THE SUMMIT it is the other way round.
        CanalCompany y = roomy();
        y.lock(6, 2, 2);
        y.boat(6, 7, 0, 1, 0, 0);
        y.boat(7, 6, 0, 1, 0, 0);
        y.hours(2, 0);
        due("9 up to the left", y.at(1, 2), 1);
        due("9 down to the right", y.at(0, 2), 0);
        CanalCompany z = roomy();
        z.lock(0, 2, 2);
        z.boat(0, 1, 0, 1, 0, 0);
        z.hours(2, 0);
        z.boat(0, 1, 0, 1, 0, 0);
        z.boat(0, 1, 0, 1, 0, 0);
        z.hours(2, 0);
        due("9 none stands right: of least number", z.at(1, 2), 1);
        due("9 none stands right: of least number", z.at(2, 2), 0);
    }

    /** "how many HOURS it waited READY" */
    private static void waitedReady() {
        CanalCompany x = roomy();
        x.pound(1, 2, 9999);
        x.boat(0, 1, 0, 3, 0, 0);
        x.hours(3, 0);
        due("11 not READY yet", x.at(0, 3), 0);
        x.hour(0);
        due("11 the first HOUR", x.at(0, 3), 1);
        x.hours(100, 0);
        due("11 READY from the same HOUR", x.at(0, 1), 3);
        due("11 many HOURS", x.at(0, 3), 101);
        x.pound(1, 2, 0);
        x.hour(0);
        due("11 not that in which it goes", x.at(0, 3), 101);
    }

    /** "MILES (5 for each POUND from where it was told to its goal, both counted)" */
    private static void miles() {
        for (int from = 0; from < 8; from++) {
            CanalCompany x = new CanalCompany();
            for (int to = 0; to < 8; to++) {
                int number = from == to ? NONE : x.boat(from, to, 0, 1, 0, 0);
                if (number >= 0) {
                    due("11 MILES", x.at(number, 4), 5 * (Math.abs(from - to) + 1));
                }
            }
            x.hours(20, 0);
            due("11 MILES stay", x.at(0, 4), 5 * ((from == 0 ? 1 : from) + 1));
        }
    }

    /** "n HOURS (1 to 100)": "STATE: it would be above 600" */
    private static void lastHours() {
        CanalCompany x = roomy();
        x.boat(0, 1, 0, 1, 0, 0);
        due("10 the most at once", x.hours(100, 0), 1);
        due("45", x.count(0), 100);
        Canals.passHours(x, 450);
        due("10 above 600 by one", x.hours(51, 50), CanalCompany.STATE);
        due("45 none went by", x.count(0), 550);
        due("14 no RAIN came", x.sum(0), 0);
        due("10 to 600", x.hours(50, 0), 0);
        due("45", x.count(0), 600);
        due("10 one more", x.hours(1, 0), CanalCompany.STATE);
        due("9 one more", x.hour(0), CanalCompany.STATE);
        due("7 an HOUR is told from 0 to 599 still", x.acts(0, 0, 599), -1001);
    }

    /** "n HOURS (1 to 100) of one RAIN": as n times hour() */
    private static void rainOfManyHours() {
        CanalCompany many = Canals.busy();
        CanalCompany single = Canals.busy();
        int went = 0;
        for (int i = 0; i < 37; i++) {
            went += single.hour(3);
        }
        due("10 as many go", many.hours(37, 3), went);
        due("10 and all is as it was by single HOURS", many.digest(), single.digest());
    }

    /** "(Taken may be below 0: then told as 1000000 less it.)" */
    private static void takenBelowNothing() {
        CanalCompany x = roomy();
        due("14 none", x.sum(1), 0);
        x.taker(0, 0, 1, 0);
        x.hour(0);
        due("14 one", x.sum(1), 1);
        x.taker(3, 1, 2, 0);
        x.hour(0);
        due("14 as much given as taken", x.sum(1), 0);
        x.hour(0);
        due("14 one below 0", x.sum(1), 1000001);
        due("7 took", x.acts(0, 2, 0), 3);
        due("7 gave", x.acts(1, 2, 0), -4);
        CanalCompany y = new CanalCompany();
        for (int i = 0; i < 12; i++) {
            y.taker(4, i % 8, 200, 0);
        }
        Canals.passHours(y, 600);
        due("14 the most that can be given", y.sum(1), 1000000 + 12L * 400 * 600);
        due("7 the most that one can give", y.acts(11, 2, 0), -240000);
        due("14 all of it LOST", y.sum(2), 12L * 400 * 600);
        CanalCompany z = new CanalCompany();
        Canals.passHours(z, 500);
        z.hours(100, 50);
        due("14 the most RAIN", z.sum(0), 8L * 50 * 100);
    }
}
