/** Promises 1 to 14: the line. */
public final class LineTest {
    private static final int NONE = -1, UNKNOWN = -101, OUTSIDE = -102, STATE = -103, FULL = -104;
    private static final Check CHECK = new Check();

    public static void main(String[] args) {
        newObject();
        pounds();
        summit();
        locks();
        takers();
        sorts();
        whatTakersDo();
        boats();
        boatRefusals();
        rainAndWeir();
        takersByRank();
        takersStopAtTheBottom();
        goingUpAndDown();
        sidePonds();
        summitDecidesWhatIsUp();
        tooLittleAbove();
        tooLittleAhead();
        rules();
        blockedLock();
        waiting();
        limitsOfHours();
        sums();
        CHECK.end();
    }

    private static void due(String what, long got, long want) {
        CHECK.due(what, got, want);
    }

    private static void newObject() {
        CanalCompany x = new CanalCompany();
        for (int p = 0; p < 8; p++) {
            due("1 WATER", x.now(p, 0), 1000);
            due("1 FULL", x.now(p, 1), 1000);
            due("1 LEAST", x.now(p, 2), 500);
        }
        for (int l = 0; l < 7; l++) {
            for (int what = 0; what < 4; what++) {
                due("1 lockIs", x.lockIs(l, what), 0);
            }
            due("1 LOCKFUL", x.lock(l, 0, 100), 100);
            due("1 SIDE", x.lock(l, 1, 0), 0);
            due("1 RULE", x.lock(l, 2, 0), 0);
        }
        due("1 summit", x.summit(3), 3);
        due("1 rate", x.rate(9), 9);
        for (int what = 0; what < 12; what++) {
            due("1 count " + what, x.count(what), 0);
        }
        due("1 constants", CanalCompany.NONE, NONE);
        due("1 constants", CanalCompany.UNKNOWN, UNKNOWN);
        due("1 constants", CanalCompany.OUTSIDE, OUTSIDE);
        due("1 constants", CanalCompany.STATE, STATE);
        due("1 constants", CanalCompany.FULL, FULL);
    }

    private static void pounds() {
        CanalCompany x = new CanalCompany();
        due("2 water", x.pound(0, 0, 0), 1000);
        due("2 water", x.pound(0, 0, 1000), 0);
        due("2 above full", x.pound(0, 0, 1001), OUTSIDE);
        due("2 below nothing", x.pound(0, 0, -1), OUTSIDE);
        due("2 full below water", x.pound(0, 1, 999), OUTSIDE);
        due("2 full at water", x.pound(0, 1, 1000), 1000);
        due("2 full most", x.pound(0, 1, 9999), 1000);
        due("2 full above most", x.pound(0, 1, 10000), OUTSIDE);
        due("2 water most", x.pound(0, 0, 9999), 1000);
        due("2 water above most", x.pound(0, 0, 10000), OUTSIDE);
        due("2 water least", x.pound(7, 0, 0), 1000);
        due("2 full below 100", x.pound(7, 1, 99), OUTSIDE);
        due("2 full 100", x.pound(7, 1, 100), 1000);
        due("2 least", x.pound(7, 2, 9999), 500);
        due("2 least", x.pound(7, 2, 10000), OUTSIDE);
        due("2 least", x.pound(7, 2, -1), OUTSIDE);
        due("2 least", x.pound(7, 2, 0), 9999);
        due("2 pound", x.pound(-1, 0, -1), UNKNOWN);
        due("2 pound", x.pound(8, 0, 1), UNKNOWN);
        due("2 what", x.pound(0, 3, -1), UNKNOWN);
        due("2 what", x.pound(0, -1, 1), UNKNOWN);
        due("13 water", x.now(0, 0), 9999);
        due("13 full", x.now(7, 1), 100);
        due("13 least", x.now(7, 2), 0);
        due("13 pound", x.now(8, 3), UNKNOWN);
        due("13 pound", x.now(-1, 0), UNKNOWN);
        due("13 what", x.now(0, 3), OUTSIDE);
        due("13 what", x.now(0, -1), OUTSIDE);
    }

    private static void summit() {
        CanalCompany x = new CanalCompany();
        due("3", x.summit(1), 3);
        due("3", x.summit(6), 1);
        due("3 least", x.summit(0), OUTSIDE);
        due("3 most", x.summit(7), OUTSIDE);
        x.boat(0, 1, 0, 1, 0, 0);
        due("3 boat", x.summit(2), STATE);
        due("3 outside first", x.summit(7), OUTSIDE);
        CanalCompany y = new CanalCompany();
        y.taker(0, 0, 1, 0);
        due("3 a taker is no boat", y.summit(2), 3);
        y.hour(0);
        due("3 hour", y.summit(2), STATE);
    }

    private static void locks() {
        CanalCompany x = new CanalCompany();
        due("4 lockful", x.lock(0, 0, 10), 100);
        due("4 lockful", x.lock(0, 0, 200), 10);
        due("4 lockful", x.lock(0, 0, 201), OUTSIDE);
        due("4 lockful", x.lock(0, 0, 9), OUTSIDE);
        due("4 side", x.lock(6, 1, 1), 0);
        due("4 side", x.lock(6, 1, 2), OUTSIDE);
        due("4 side", x.lock(6, 1, -1), OUTSIDE);
        due("4 side", x.lock(6, 1, 0), 1);
        due("4 rule", x.lock(6, 2, 2), 0);
        due("4 rule", x.lock(6, 2, 3), OUTSIDE);
        due("4 rule", x.lock(6, 2, -1), OUTSIDE);
        due("4 lock", x.lock(7, 0, 0), UNKNOWN);
        due("4 lock", x.lock(-1, 0, 0), UNKNOWN);
        due("4 what", x.lock(0, 3, 0), UNKNOWN);
        due("4 what", x.lock(0, -1, 0), UNKNOWN);
        x.hour(0);
        due("4 lockful then", x.lock(0, 0, 100), STATE);
        due("4 side then", x.lock(0, 1, 1), STATE);
        due("4 outside first", x.lock(0, 1, 2), OUTSIDE);
        due("4 rule then", x.lock(6, 2, 1), 2);
        due("12 lock", x.lockIs(7, 9), UNKNOWN);
        due("12 lock", x.lockIs(-1, 0), UNKNOWN);
        due("12 what", x.lockIs(0, 4), OUTSIDE);
        due("12 what", x.lockIs(0, -1), OUTSIDE);
    }

    private static void takers() {
        CanalCompany x = new CanalCompany();
        due("5 pound first", x.taker(9, 8, 0, 10), UNKNOWN);
        due("5 pound", x.taker(0, -1, 1, 0), UNKNOWN);
        due("5 sort", x.taker(5, 0, 1, 0), OUTSIDE);
        due("5 sort", x.taker(-1, 0, 1, 0), OUTSIDE);
        due("5 amount", x.taker(0, 0, 0, 0), OUTSIDE);
        due("5 amount", x.taker(0, 0, 201, 0), OUTSIDE);
        due("5 rank", x.taker(0, 0, 1, 10), OUTSIDE);
        due("5 rank", x.taker(0, 0, 1, -1), OUTSIDE);
        for (int i = 0; i < 12; i++) {
            due("5 number", x.taker(i % 5, i % 8, i % 2 == 0 ? 1 : 200, i % 10), i);
        }
        due("5 full", x.taker(0, 0, 1, 0), FULL);
        due("5 outside before full", x.taker(0, 0, 0, 0), OUTSIDE);
        due("45 takers", x.count(1), 12);
        due("6 the twelfth", x.as(11, 0), 11);
        due("6 no thirteenth", x.as(12, 0), UNKNOWN);
        due("7 no thirteenth", x.acts(12, 0, 0), -1001);
    }

    private static void sorts() {
        CanalCompany x = new CanalCompany();
        boolean[][] is = {
            {true, false, false, false, false},
            {true, true, false, false, false},
            {true, false, true, false, false},
            {true, false, false, true, false},
            {true, false, false, true, true},
        };
        for (int sort = 0; sort < 5; sort++) {
            x.taker(sort, 0, 1, 0);
            for (int asked = 0; asked < 5; asked++) {
                due("6 " + sort + " as " + asked, x.as(sort, asked), is[sort][asked] ? sort : NONE);
            }
        }
        due("6 unknown first", x.as(5, 9), UNKNOWN);
        due("6 unknown", x.as(-1, 0), UNKNOWN);
        due("6 sort", x.as(0, 5), OUTSIDE);
        due("6 sort", x.as(0, -1), OUTSIDE);
    }

    private static void whatTakersDo() {
        CanalCompany x = new CanalCompany();
        for (int sort = 0; sort < 5; sort++) {
            x.taker(sort, 2, 39, 0);
        }
        x.pound(2, 1, 1100);
        due("7 taker", x.acts(0, 0, 3), 39);
        due("7 mill at 5", x.acts(1, 0, 5), 0);
        due("7 mill at 6", x.acts(1, 0, 6), 39);
        due("7 mill at 17", x.acts(1, 0, 17), 39);
        due("7 mill at 18", x.acts(1, 0, 18), 0);
        due("7 mill at 599", x.acts(1, 0, 599), 0);
        due("7 mill at 593", x.acts(1, 0, 593), 39);
        due("7 leak", x.acts(2, 0, 0), 35);
        due("7 feeder", x.acts(3, 0, 0), -39);
        due("7 pump", x.acts(4, 0, 0), -78);
        x.pound(2, 0, 0);
        due("7 leak of nothing", x.acts(2, 0, 0), 0);
        due("7 taker of nothing", x.acts(0, 0, 0), 39);
        int[] costs = {0, 3, 0, 1, 4};
        for (int i = 0; i < 5; i++) {
            due("7 cost " + i, x.acts(i, 1, 0), costs[i]);
            due("7 took " + i, x.acts(i, 2, 0), 0);
        }
        x.taker(4, 0, 200, 0);
        due("7 cost of the greatest pump", x.acts(5, 1, 0), 21);
        due("7 unknown first", x.acts(6, 9, -1), -1001);
        due("7 unknown", x.acts(-1, 0, 0), -1001);
        due("7 what", x.acts(0, 3, 0), -1002);
        due("7 what", x.acts(0, -1, 0), -1002);
        due("7 hour", x.acts(0, 0, 600), -1002);
        due("7 hour", x.acts(0, 2, -1), -1002);
    }

    private static void boats() {
        CanalCompany x = new CanalCompany();
        due("8", x.boat(1, 3, 10, 2, 3, 3), 0);
        due("11 pound", x.at(0, 0), 1);
        due("11 ready", x.at(0, 1), 2);
        due("11 come", x.at(0, 2), 0);
        due("11 waited", x.at(0, 3), 0);
        due("11 miles", x.at(0, 4), 15);
        due("9 not yet", x.hour(0), 0);
        due("9 not yet", x.hour(0), 0);
        due("9 goes", x.hour(0), 1);
        due("11 pound", x.at(0, 0), 2);
        due("11 ready", x.at(0, 1), 4);
        due("10 two", x.hours(2, 0), 1);
        due("11 there", x.at(0, 0), 3);
        due("11 ready no more", x.at(0, 1), NONE);
        due("11 come", x.at(0, 2), 1);
        due("11 waited", x.at(0, 3), 0);
        due("45 come", x.count(3), 1);
        due("8 told later", x.boat(7, 0, 0, 9, 0, 0), 1);
        due("8 ready later", x.at(1, 1), 14);
        due("11 miles", x.at(1, 4), 40);
        due("11 unknown first", x.at(2, 9), UNKNOWN);
        due("11 unknown", x.at(-1, 0), UNKNOWN);
        due("11 what", x.at(0, 5), OUTSIDE);
        due("11 what", x.at(0, -1), OUTSIDE);
    }

    private static void boatRefusals() {
        CanalCompany x = new CanalCompany();
        due("8 from", x.boat(-1, 0, 99, 1, 0, 0), UNKNOWN);
        due("8 from", x.boat(8, 0, 0, 1, 0, 0), UNKNOWN);
        due("8 to", x.boat(0, -1, 0, 1, 0, 0), UNKNOWN);
        due("8 to", x.boat(0, 8, 0, 1, 0, 0), UNKNOWN);
        due("8 same", x.boat(4, 4, -1, 1, 0, 0), UNKNOWN);
        due("8 load", x.boat(0, 1, 41, 1, 0, 0), OUTSIDE);
        due("8 load", x.boat(0, 1, -1, 1, 0, 0), OUTSIDE);
        due("8 pace", x.boat(0, 1, 0, 0, 0, 0), OUTSIDE);
        due("8 pace", x.boat(0, 1, 0, 10, 0, 0), OUTSIDE);
        due("8 goods", x.boat(0, 1, 0, 1, 4, 0), OUTSIDE);
        due("8 goods", x.boat(0, 1, 0, 1, -1, 0), OUTSIDE);
        due("8 carrier", x.boat(0, 1, 0, 1, 0, 4), OUTSIDE);
        due("8 carrier", x.boat(0, 1, 0, 1, 0, -1), OUTSIDE);
        for (int i = 0; i < 12; i++) {
            due("8 number", x.boat(0, 7, 40, 9, 3, 3), i);
        }
        due("8 full", x.boat(0, 7, 40, 9, 3, 3), FULL);
        due("8 outside before full", x.boat(0, 7, 41, 9, 3, 3), OUTSIDE);
        due("11 the twelfth", x.at(11, 0), 0);
        due("11 no thirteenth", x.at(12, 0), UNKNOWN);
    }

    private static void rainAndWeir() {
        CanalCompany x = new CanalCompany();
        x.pound(2, 0, 970);
        x.pound(3, 0, 940);
        x.hour(50);
        due("9 to the weir", x.now(2, 0), 1000);
        due("9 below the weir", x.now(3, 0), 990);
        due("14 rain", x.sum(0), 400);
        due("14 lost", x.sum(2), 6 * 50 + 20);
        due("9 rain", x.hour(51), OUTSIDE);
        due("9 rain", x.hour(-1), OUTSIDE);
        due("45 hours", x.count(0), 1);
    }

    private static void takersByRank() {
        CanalCompany x = new CanalCompany();
        x.pound(0, 0, 100);
        x.taker(0, 0, 80, 5);
        x.taker(0, 0, 30, 1);
        x.taker(0, 0, 25, 5);
        x.taker(3, 0, 10, 0);
        x.hour(0);
        due("9 feeder first", x.acts(3, 2, 0), -10);
        due("9 second", x.acts(1, 2, 0), 30);
        due("9 of like rank the least number", x.acts(0, 2, 0), 80);
        due("9 nothing is left", x.acts(2, 2, 0), 0);
        due("14 taken", x.sum(1), 100);
        // A leak looks at the water that it finds, not at that of the hour's start.
        CanalCompany y = new CanalCompany();
        y.taker(2, 4, 100, 3);
        y.taker(0, 4, 200, 2);
        y.hour(0);
        due("9 leak", y.acts(0, 2, 0), 80);
        due("9 water", y.now(4, 0), 720);
        // What a feeder gives above FULL counts as given, and as lost.
        CanalCompany z = new CanalCompany();
        z.taker(4, 5, 30, 0);
        z.hour(0);
        due("9 pump", z.acts(0, 2, 0), -60);
        due("14 lost", z.sum(2), 60);
        due("14 given", z.sum(1), 1000060);
    }

    private static void takersStopAtTheBottom() {
        CanalCompany x = new CanalCompany();
        x.pound(0, 0, 5);
        x.taker(0, 0, 200, 0);
        x.taker(1, 1, 7, 0);
        x.hours(6, 0);
        due("9 no more than water", x.acts(0, 2, 0), 5);
        due("9 empty", x.now(0, 0), 0);
        due("9 the mill stands", x.acts(1, 2, 0), 0);
        x.hour(0);
        due("9 the mill goes from hour 6", x.acts(1, 2, 0), 7);
        x.hours(11, 0);
        due("9 and to hour 17", x.acts(1, 2, 0), 84);
        x.hour(0);
        due("9 and no longer", x.acts(1, 2, 0), 84);
    }

    private static void goingUpAndDown() {
        CanalCompany x = new CanalCompany();
        x.pound(0, 0, 600);
        x.boat(0, 1, 0, 1, 0, 0);
        x.boat(0, 1, 0, 2, 0, 0);
        x.boat(1, 0, 0, 3, 0, 0);
        x.boat(1, 0, 0, 4, 0, 0);
        x.hours(2, 0);
        due("12 filled by one up", x.lockIs(0, 0), 1);
        due("9 from the upper", x.now(1, 0), 900);
        due("9 the lower keeps", x.now(0, 0), 600);
        x.hour(0);
        due("12 emptied and filled", x.lockIs(0, 3), 2);
        due("9 from the upper", x.now(1, 0), 800);
        due("9 into the lower", x.now(0, 0), 700);
        x.hour(0);
        due("9 down through a filled one takes nothing", x.now(1, 0), 800);
        due("9 into the lower", x.now(0, 0), 800);
        due("12 empty", x.lockIs(0, 0), 0);
        x.hour(0);
        due("9 down through an empty one", x.now(1, 0), 700);
        due("9 into the lower", x.now(0, 0), 900);
        due("12 empty", x.lockIs(0, 0), 0);
        due("12 passed", x.lockIs(0, 2), 4);
        due("12 filled", x.lockIs(0, 3), 3);
        due("12 kept without a side", x.lockIs(0, 1), 0);
        due("14 in locks", x.sum(4), 0);
        due("45 come", x.count(3), 4);
    }

    private static void sidePonds() {
        CanalCompany x = new CanalCompany();
        x.lock(0, 0, 75);
        x.lock(0, 1, 1);
        x.pound(0, 0, 600);
        x.boat(1, 0, 0, 1, 0, 0);
        x.boat(0, 1, 0, 2, 0, 0);
        x.boat(0, 1, 0, 3, 0, 0);
        x.hours(2, 0);
        due("9 first filling", x.now(1, 0), 925);
        due("9 half is kept", x.lockIs(0, 1), 37);
        due("9 the rest goes down", x.now(0, 0), 638);
        x.hour(0);
        due("9 kept first", x.now(1, 0), 887);
        due("9 the side is empty", x.lockIs(0, 1), 0);
        due("14 in locks and sides", x.sum(4), 75);
        x.hour(0);
        due("9 emptied, then filled", x.now(1, 0), 849);
        due("9 into the lower", x.now(0, 0), 676);
        due("12 kept", x.lockIs(0, 1), 0);
        // Kept is counted as it would be behind the emptying that goes ahead.
        CanalCompany y = new CanalCompany();
        y.lock(0, 1, 1);
        y.boat(0, 1, 0, 1, 0, 0);
        y.boat(0, 1, 0, 2, 0, 0);
        y.pound(1, 2, 0);
        y.hours(2, 0);
        y.pound(1, 0, 49);
        due("9 less than half", y.hour(0), 0);
        y.pound(1, 0, 50);
        due("9 half is enough", y.hour(0), 1);
        due("9 all of it", y.now(1, 0), 0);
        // And as it is, where the lock is empty.
        CanalCompany z = new CanalCompany();
        z.lock(0, 1, 1);
        z.boat(1, 0, 0, 1, 0, 0);
        z.boat(0, 1, 0, 2, 0, 0);
        z.pound(1, 2, 0);
        z.hours(2, 0);
        due("12 kept", z.lockIs(0, 1), 50);
        z.pound(1, 0, 49);
        due("9 less than what is not kept", z.hour(0), 0);
        z.pound(1, 0, 50);
        due("9 what is not kept is enough", z.hour(0), 1);
        // The weir of the lower pound.
        due("14 lost", y.sum(2), 50);
    }

    private static void summitDecidesWhatIsUp() {
        for (int summit = 1; summit <= 6; summit++) {
            CanalCompany x = new CanalCompany();
            x.summit(summit);
            for (int i = 0; i < 7; i++) {
                x.boat(i, i + 1, 0, 1, 0, 0);
            }
            x.hours(2, 0);
            for (int i = 0; i < 7; i++) {
                due("9 lock " + i + " of summit " + summit, x.lockIs(i, 0), i < summit ? 1 : 0);
                due("9 filled once", x.lockIs(i, 3), 1);
            }
            CanalCompany y = new CanalCompany();
            y.summit(summit);
            for (int i = 0; i < 7; i++) {
                y.boat(i + 1, i, 0, 1, 0, 0);
            }
            y.hours(2, 0);
            for (int i = 0; i < 7; i++) {
                due("9 back through " + i, y.lockIs(i, 0), i < summit ? 0 : 1);
            }
        }
    }

    private static void tooLittleAbove() {
        CanalCompany x = new CanalCompany();
        x.pound(1, 2, 0);
        x.pound(1, 0, 99);
        x.boat(0, 1, 0, 1, 0, 0);
        due("9 too little", x.hours(3, 0), 0);
        due("11 waited", x.at(0, 3), 2);
        x.pound(1, 0, 100);
        due("9 just enough", x.hour(0), 1);
        due("9 all of it", x.now(1, 0), 0);
        CanalCompany y = new CanalCompany();
        y.pound(1, 0, 99);
        y.boat(1, 0, 0, 1, 0, 0);
        due("9 down through an empty one", y.hours(2, 0), 0);
        y.pound(1, 0, 100);
        due("9 just enough", y.hour(0), 1);
        // A filled one lets a boat down, however low the upper pound is.
        CanalCompany z = new CanalCompany();
        z.boat(0, 1, 0, 1, 0, 0);
        z.hours(2, 0);
        z.boat(1, 0, 0, 1, 0, 0);
        z.pound(1, 0, 0);
        due("9 through a filled one", z.hours(2, 0), 1);
    }

    private static void tooLittleAhead() {
        CanalCompany x = new CanalCompany();
        x.pound(1, 0, 699);
        x.boat(0, 1, 40, 1, 0, 0);
        due("9 too shallow", x.hours(2, 0), 0);
        x.pound(1, 0, 700);
        due("9 deep enough, as it is ahead", x.hour(0), 1);
        due("9 lower then", x.now(1, 0), 600);
        CanalCompany y = new CanalCompany();
        y.pound(0, 0, 549);
        y.boat(1, 0, 10, 1, 0, 0);
        due("9 what the lock brings does not count", y.hours(2, 0), 0);
        y.pound(0, 0, 550);
        due("9 deep enough", y.hour(0), 1);
    }

    private static void rules() {
        for (int rule = 0; rule < 3; rule++) {
            CanalCompany x = new CanalCompany();
            x.lock(0, 2, rule);
            x.boat(1, 0, 5, 2, 0, 0);
            x.boat(0, 1, 30, 2, 0, 0);
            x.boat(0, 1, 30, 2, 0, 0);
            x.boat(0, 1, 9, 2, 0, 0);
            x.hours(3, 0);
            int first = rule == 0 ? 0 : 1;
            for (int i = 0; i < 4; i++) {
                due("9 rule " + rule + " boat " + i, x.at(i, 2), i == first ? 1 : 0);
            }
            x.hour(0);
            // By rule 2 the filled lock suits boat 0 now; by rule 1 boat 2 is heaviest.
            int second = rule == 0 ? 1 : rule == 1 ? 2 : 0;
            due("9 rule " + rule + " second", x.at(second, 2), 1);
            due("9 two went", x.count(3), 2);
        }
        CanalCompany y = new CanalCompany();
        y.lock(0, 2, 2);
        y.boat(1, 0, 5, 1, 0, 0);
        y.boat(1, 0, 5, 1, 0, 0);
        y.hours(2, 0);
        due("9 rule 2, none stands right", y.at(0, 2), 1);
        due("9 rule 2, none stands right", y.at(1, 2), 0);
    }

    private static void blockedLock() {
        CanalCompany x = new CanalCompany();
        x.pound(1, 0, 600);
        x.boat(0, 1, 40, 1, 0, 0);
        x.boat(0, 1, 0, 1, 0, 0);
        due("9 nobody goes behind one that may not", x.hours(2, 0), 0);
        x.lock(0, 2, 1);
        due("9 nor by rule 1", x.hour(0), 0);
        due("11 waited", x.at(1, 3), 2);
        due("11 still ready from", x.at(1, 1), 1);
    }

    private static void waiting() {
        CanalCompany x = new CanalCompany();
        for (int i = 0; i < 3; i++) {
            x.boat(0, 2, 0, 1, 0, 0);
        }
        due("10", x.hours(5, 0), 6);
        due("11 waited", x.at(0, 3), 0);
        due("11 waited", x.at(1, 3), 1);
        due("11 waited", x.at(2, 3), 2);
        // Two locks in one hour are not for one boat.
        CanalCompany y = new CanalCompany();
        y.boat(0, 7, 0, 1, 0, 0);
        due("9 one lock in an hour", y.hours(2, 0), 1);
        due("9 one lock in an hour", y.at(0, 0), 1);
    }

    private static void limitsOfHours() {
        CanalCompany x = new CanalCompany();
        due("10 n", x.hours(0, 0), OUTSIDE);
        due("10 n", x.hours(101, 0), OUTSIDE);
        due("10 rain", x.hours(1, 51), OUTSIDE);
        due("10 rain", x.hours(1, -1), OUTSIDE);
        for (int i = 0; i < 5; i++) {
            x.hours(100, 0);
        }
        x.hours(99, 0);
        due("10 above 600", x.hours(2, 0), STATE);
        due("10 outside first", x.hours(200, 0), OUTSIDE);
        due("10 to 600", x.hours(1, 0), 0);
        due("9 600 have", x.hour(0), STATE);
        due("9 outside first", x.hour(51), OUTSIDE);
        due("45 hours", x.count(0), 600);
    }

    private static void sums() {
        CanalCompany x = new CanalCompany();
        x.lock(2, 1, 1);
        x.taker(0, 1, 11, 0);
        x.taker(4, 6, 9, 1);
        for (int i = 0; i < 6; i++) {
            x.boat(i, 7 - i, 3 * i, 1 + i, 0, 0);
        }
        x.boat(6, 1, 3, 1, 0, 0);
        for (int i = 0; i < 40; i++) {
            x.hour(i % 4);
            long taken = x.sum(1);
            long net = taken >= 1000000 ? 1000000 - taken : taken;
            due("14 all water is somewhere", x.sum(3) + x.sum(4) + x.sum(2) + net - x.sum(0), 8000);
        }
        due("14 what", x.sum(5), -1);
        due("14 what", x.sum(-1), -1);
    }
}
