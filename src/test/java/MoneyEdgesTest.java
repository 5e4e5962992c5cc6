/** The edges that the document names for money: each test has the sentence that it holds. */
public final class MoneyEdgesTest {
    private static final int NONE = -1, STATE = -103, FULL = -104;
    private static final Check CHECK = new Check();

    public static void main(String[] args) {
        creditToThePenny();
        creditWithout();
        noneOwesNothingMore();
        billedOnce();
        carriersApart();
        paidToNothing();
        greatestBills();
        debtsAtTheirEdges();
        rankByRank();
        partsOfARank();
        leftByOnes();
        owedSome();
        failedOwesOthersThanCarriers();
        sharesAtTheirEdges();
        hasNotSoMany();
        twentyFourTimes();
        notAheadOfTheLatest();
        hadByThatDay();
        moreThanWasTold();
        dividendOfNothing();
        greatestRest();
        ofLikeRestsTheLeast();
        dividendToThePenny();
        nobodyHasAny();
        railwayIsLess();
        railwayRoundedDown();
        railwayAtItsEdges();
        overAllBoats();
        bestPenceAtItsEdges();
        fewestPence();
        eightWorks();
        coinToThePenny();
        planOfLikeOnes();
        withWhatItNeeds();
        CHECK.end();
    }

    private static void due(String what, long got, long want) {
        CHECK.due(what, got, want);
    }

    /** BOATS whose TOLLS are 20 times pence each, all of CARRIER 1; CREDIT as told. */
    private static CanalCompany boats(int many, int pence, String credit) {
        CanalCompany x = new CanalCompany();
        for (int i = 0; i < many; i++) {
            x.boat(0, 1, 2, 1, 0, 1);
        }
        Canals.tell(x, "T:" + pence);
        if (!credit.isEmpty()) {
            Canals.tell(x, credit);
        }
        return x;
    }

    /** "a TOLL that is billed is owed, if what is owed then is not above CREDIT" */
    private static void creditToThePenny() {
        due("32 at CREDIT", boats(1, 5, "C:100").bill(0, 0), 100);
        due("32 one above CREDIT", boats(1, 5, "C:99").bill(0, 0), NONE);
        due("32 one below CREDIT", boats(1, 5, "C:101").bill(0, 0), 100);
        CanalCompany x = boats(3, 5, "C:200");
        due("32", x.bill(0, 0), 100);
        due("32 together at CREDIT", x.bill(1, 0), 200);
        due("32 together above CREDIT", x.bill(2, 0), NONE);
        due("33 a penny less is owed", x.pay(1, 99), 101);
        due("32 above CREDIT by one", x.bill(2, 0), NONE);
        due("33", x.pay(1, 1), 100);
        due("32 at CREDIT again", x.bill(2, 0), 200);
    }

    /** "CREDIT: what C says (0 without)" */
    private static void creditWithout() {
        due("32 without", boats(1, 5, "").bill(0, 0), NONE);
        due("32 none for this BOAT", boats(1, 5, "C:999?l>2").bill(0, 0), NONE);
        due("32 no TOLL needs no CREDIT", boats(1, 0, "").bill(0, 0), 0);
        due("32 CREDIT of 0", boats(1, 5, "C:0").bill(0, 0), NONE);
        CanalCompany x = boats(2, 5, "C:100?d<50");
        x.bill(0, 49);
        // No CREDIT from DAY 50 on: what is owed already is above it.
        Canals.tell(x, "T:0?d>49");
        due("32 what is owed already counts", x.bill(1, 50), NONE);
        due("32 with CREDIT", x.bill(1, 49), NONE);
        x.pay(1, 100);
        due("32 nothing is owed", x.bill(1, 50), 0);
    }

    /** "NONE: it would be above CREDIT (nothing is owed more)" */
    private static void noneOwesNothingMore() {
        CanalCompany x = boats(1, 5, "C:99");
        long was = x.digest();
        due("32", x.bill(0, 0), NONE);
        due("32 nothing changed", x.digest(), was);
        due("33 nothing is owed", x.pay(1, 0), 0);
        due("32 again", x.bill(0, 0), NONE);
        Canals.tell(x, "C:100");
        due("32 it was not billed", x.bill(0, 0), 100);
    }

    /** "STATE: it was billed already." */
    private static void billedOnce() {
        CanalCompany x = boats(2, 5, "C:9999");
        due("32", x.bill(0, 0), 100);
        long was = x.digest();
        due("32 already", x.bill(0, 0), STATE);
        due("32 already, on another DAY too", x.bill(0, 99), STATE);
        due("32 nothing changed", x.digest(), was);
        x.pay(1, 999999);
        due("32 already, though it is paid", x.bill(0, 0), STATE);
        due("32 the other one", x.bill(1, 0), 100);
        CanalCompany y = boats(1, 0, "");
        due("32 a TOLL of 0", y.bill(0, 0), 0);
        due("32 was billed too", y.bill(0, 0), STATE);
    }

    /** "CARRIERS owe (0 at first)" */
    private static void carriersApart() {
        CanalCompany x = new CanalCompany();
        Canals.tell(x, "T:1");
        Canals.tell(x, "C:9999");
        for (int i = 0; i < 4; i++) {
            due("33 at first", x.pay(i, 0), 0);
            x.boat(0, 1, 1 + i, 1, 0, i);
        }
        for (int i = 0; i < 4; i++) {
            due("32 CARRIER " + i, x.bill(i, 0), 10 * (1 + i));
        }
        for (int i = 0; i < 4; i++) {
            due("33 CARRIER " + i, x.pay(i, 1), 10 * (1 + i) - 1);
        }
    }

    /** "what is owed then (0 at least)" */
    private static void paidToNothing() {
        int[][] rows = {{0, 100}, {1, 99}, {99, 1}, {100, 0}, {101, 0}, {999999, 0}};
        for (int[] row : rows) {
            CanalCompany x = boats(1, 5, "C:100");
            x.bill(0, 0);
            due("33 pays " + row[0], x.pay(1, row[0]), row[1]);
            due("33 stays", x.pay(1, 0), row[1]);
        }
        due("33 nothing is owed", new CanalCompany().pay(0, 999999), 0);
    }

    /** The greatest CREDIT is 9999, far below the greatest TOLL. */
    private static void greatestBills() {
        CanalCompany x = new CanalCompany();
        x.boat(0, 7, 40, 1, 0, 3);
        x.boat(0, 2, 40, 1, 0, 3);
        Canals.tell(x, "T:9999?m=40");
        Canals.tell(x, "T:16?m=15");
        Canals.tell(x, "C:9999");
        due("32 the greatest TOLL", x.bill(0, 0), NONE);
        due("32 a TOLL of 9600", x.bill(1, 0), 9600);
        due("22 the greatest TOLL", x.toll(0, 0), 15998400);
        due("32 the greatest TOLL and more", x.bill(0, 0), NONE);
    }

    /** "what is owed to ranks 0 to 2 (0 to 9999 each, told)" */
    private static void debtsAtTheirEdges() {
        CanalCompany x = new CanalCompany();
        for (int carrier = 0; carrier < 4; carrier++) {
            for (int rank = 0; rank < 3; rank++) {
                due("34 at first", x.debt(carrier, rank, 9999), 0);
                due("34 the most", x.debt(carrier, rank, 9999), 9999);
            }
        }
        for (int carrier = 0; carrier < 4; carrier++) {
            due("35 not enough for rank 2", x.failed(carrier, 99999), 9999 + 9999 + (carrier < 3 ? 5002 : 5001));
            due("35 ranks 0 and 1", x.failed(carrier, 8 * 9999), 2 * 9999);
        }
        due("35 one penny less", x.failed(3, 8 * 9999 - 1), 2 * 9999 - 1);
        due("35 one penny more", x.failed(0, 8 * 9999 + 1), 2 * 9999 + 1);
        due("34 to nothing", x.debt(3, 2, 0), 9999);
        due("34 to nothing", x.debt(3, 2, 1), 0);
    }

    /** "is paid from what there is, rank by rank" */
    private static void rankByRank() {
        CanalCompany x = new CanalCompany();
        x.debt(0, 0, 10);
        x.debt(1, 1, 10);
        x.debt(2, 2, 10);
        int[][] rows = {
            {0, 0, 0, 0}, {1, 1, 0, 0}, {9, 9, 0, 0}, {10, 10, 0, 0}, {11, 10, 1, 0}, {20, 10, 10, 0},
            {21, 10, 10, 1}, {29, 10, 10, 9}, {30, 10, 10, 10}, {31, 10, 10, 10}, {99999, 10, 10, 10},
        };
        for (int[] row : rows) {
            for (int carrier = 0; carrier < 3; carrier++) {
                due("35 of " + row[0] + " CARRIER " + carrier, x.failed(carrier, row[0]), row[carrier + 1]);
            }
            due("35 nothing is owed to CARRIER 3", x.failed(3, row[0]), 0);
        }
        CanalCompany y = new CanalCompany();
        y.debt(0, 2, 10);
        due("35 ranks to which nothing is owed", y.failed(0, 7), 7);
        y.debt(3, 1, 5);
        due("35 a rank that is paid whole", y.failed(0, 7), 2);
        due("35 a rank that is paid whole", y.failed(3, 7), 5);
    }

    /** "within a rank that cannot be paid whole by parts (.. rounded down ..)" */
    private static void partsOfARank() {
        CanalCompany x = new CanalCompany();
        x.debt(0, 0, 50);
        x.debt(1, 0, 70);
        due("35 5000 by 120 is 41, and one that is left", x.failed(0, 100), 42);
        due("35 7000 by 120 is 58", x.failed(1, 100), 58);
        due("35 whole", x.failed(0, 120), 50);
        due("35 less by one", x.failed(0, 119), 50);
        due("35 less by one", x.failed(1, 119), 69);
        due("35 parts without a rest", x.failed(0, 60), 25);
        due("35 parts without a rest", x.failed(1, 60), 35);
    }

    /** "what is left by ones .. from the least CARRIER on" */
    private static void leftByOnes() {
        CanalCompany x = new CanalCompany();
        for (int i = 0; i < 4; i++) {
            x.debt(i, 1, 100);
        }
        for (int there = 0; there <= 400; there++) {
            for (int i = 0; i < 4; i++) {
                due("35 of " + there, x.failed(i, there), there / 4 + (i < there % 4 ? 1 : 0));
            }
        }
    }

    /** "to those that are owed some": in that rank. */
    private static void owedSome() {
        CanalCompany x = new CanalCompany();
        x.debt(0, 1, 50);
        x.debt(1, 0, 1);
        x.debt(2, 0, 1);
        x.debt(3, 0, 1);
        int[][] rows = {{0, 0, 0, 0}, {0, 1, 0, 0}, {0, 1, 1, 0}, {0, 1, 1, 1}, {1, 1, 1, 1}, {2, 1, 1, 1}};
        for (int there = 0; there < rows.length; there++) {
            for (int i = 0; i < 4; i++) {
                due("35 of " + there, x.failed(i, there), rows[there][i]);
            }
        }
    }

    /** What CARRIERS owe has nothing to do with what is owed to them. */
    private static void failedOwesOthersThanCarriers() {
        CanalCompany x = boats(1, 5, "C:100");
        x.bill(0, 0);
        due("35 nothing is owed to it", x.failed(1, 1000), 0);
        x.debt(1, 0, 7);
        long was = x.digest();
        due("35", x.failed(1, 1000), 7);
        due("35 it only asks", x.digest(), was);
        due("33 it owes as before", x.pay(1, 0), 100);
    }

    private static CanalCompany holders(int... shares) {
        CanalCompany x = new CanalCompany();
        for (int i = 0; i < shares.length; i++) {
            x.shares(i, shares[i]);
        }
        return x;
    }

    /** "HOLDERS 0 to 5 have some (0 to 999; 0 at first)" */
    private static void sharesAtTheirEdges() {
        CanalCompany x = new CanalCompany();
        for (int i = 0; i < 6; i++) {
            due("38 at first", x.had(i, 99), 0);
            due("36 at first", x.shares(i, 999), 0);
            due("36 the most", x.shares(i, 0), 999);
            due("36 none", x.shares(i, 1), 0);
            due("38 on every DAY", x.had(i, 0), 1);
            due("38 on every DAY", x.had(i, 99), 1);
        }
    }

    /** "STATE: a has not so many" */
    private static void hasNotSoMany() {
        CanalCompany x = holders(10, 0);
        due("37 one too many", x.pass(0, 1, 11, 5), STATE);
        due("37 of nothing", x.pass(1, 0, 1, 5), STATE);
        due("45 none", x.count(8), 0);
        due("37 all", x.pass(0, 1, 10, 5), 1);
        due("37 none is left", x.pass(0, 1, 1, 5), STATE);
        due("37 back on the same DAY", x.pass(1, 0, 4, 5), 2);
        due("37 what came counts", x.pass(0, 2, 5, 6), STATE);
        due("37 what came counts", x.pass(0, 2, 4, 6), 3);
        due("37 what went counts", x.pass(1, 2, 7, 6), STATE);
        due("37 what went counts", x.pass(1, 2, 6, 6), 4);
        due("38", x.had(2, 6), 10);
        CanalCompany y = holders(999);
        due("37 the most", y.pass(0, 5, 999, 99), 1);
        due("38", y.had(5, 99), 999);
        due("38", y.had(0, 99), 0);
        due("38 ahead of that DAY", y.had(0, 98), 999);
    }

    /** "PASSED (24 at most)"; "how many times they were" */
    private static void twentyFourTimes() {
        CanalCompany x = holders(999);
        for (int i = 1; i <= 24; i++) {
            due("37 times", x.pass(0, 1 + i % 5, 1, 3), i);
            due("45 PASSED", x.count(8), i);
        }
        long was = x.digest();
        due("37 once more", x.pass(0, 1, 1, 3), FULL);
        due("37 nothing changed", x.digest(), was);
        due("38 all of them count", x.had(0, 3), 975);
    }

    /** "on a DAY (0 to 99, not ahead of the latest)" */
    private static void notAheadOfTheLatest() {
        CanalCompany x = holders(999);
        due("37 the first DAY", x.pass(0, 1, 1, 0), 1);
        due("37 the same DAY", x.pass(0, 1, 1, 0), 2);
        due("37", x.pass(0, 1, 1, 50), 3);
        due("37 ahead by one", x.pass(0, 1, 1, 49), CanalCompany.OUTSIDE);
        due("37 refused for the DAY, not for what a has", x.pass(2, 1, 999, 49), CanalCompany.OUTSIDE);
        due("37 the same DAY", x.pass(1, 0, 1, 50), 4);
        due("37 the last DAY", x.pass(0, 1, 1, 99), 5);
        due("37 ahead by one", x.pass(0, 1, 1, 98), CanalCompany.OUTSIDE);
        due("37 the last DAY again", x.pass(0, 1, 1, 99), 6);
        due("37 behind the last DAY", x.pass(0, 1, 1, 100), CanalCompany.OUTSIDE);
        // One that was refused is not the latest.
        CanalCompany y = holders(5);
        due("37 refused", y.pass(0, 1, 6, 90), STATE);
        due("37 an early DAY is free still", y.pass(0, 1, 5, 10), 1);
    }

    /** "HAD on a DAY: as told, and what was PASSED by that DAY" */
    private static void hadByThatDay() {
        CanalCompany x = holders(100, 50);
        x.pass(0, 1, 10, 0);
        x.pass(1, 2, 60, 40);
        x.pass(2, 0, 20, 40);
        x.pass(2, 3, 40, 99);
        int[][] rows = {{0, 90, 60, 0, 0}, {39, 90, 60, 0, 0}, {40, 110, 0, 40, 0}, {98, 110, 0, 40, 0},
            {99, 110, 0, 0, 40}};
        for (int[] row : rows) {
            for (int i = 0; i < 4; i++) {
                due("38 on DAY " + row[0] + " HOLDER " + i, x.had(i, row[0]), row[i + 1]);
            }
        }
    }

    /** By PASSING, a HOLDER may come to have all that there are. */
    private static void moreThanWasTold() {
        CanalCompany x = holders(999, 999, 999, 999, 999, 999);
        for (int i = 1; i < 6; i++) {
            due("37", x.pass(i, 0, 999, i), i);
            due("38", x.had(0, i), 999 * (i + 1));
        }
        due("39 all of it", x.dividend(0, 999999, 5), 999999);
        due("39 not on DAY 0", x.dividend(0, 999999, 0), 166667);
        due("37 no more than 999 at once", x.pass(0, 1, 1000, 6), CanalCompany.OUTSIDE);
        due("37 back again", x.pass(0, 1, 999, 6), 6);
    }

    /** "DIVIDEND of COIN (0 to 999999)" */
    private static void dividendOfNothing() {
        CanalCompany x = holders(1, 2, 3);
        for (int i = 0; i < 6; i++) {
            due("39 of nothing", x.dividend(i, 0, 0), 0);
        }
        CanalCompany y = holders(0, 0, 0, 0, 0, 1);
        due("39 all to the only one", y.dividend(5, 999999, 99), 999999);
        due("39 nothing to one that has none", y.dividend(0, 999999, 99), 0);
    }

    /** "what is left by ones to those of greatest rest" */
    private static void greatestRest() {
        // Of 100 by 16: 18 and 12, 31 and 4, 50 and 0; one is left.
        CanalCompany x = holders(3, 5, 8);
        int[] want = {19, 31, 50, 0, 0, 0};
        // Of 9 by 16: 1 and 11, 2 and 13, 4 and 8; two are left.
        int[] nine = {2, 3, 4, 0, 0, 0};
        // Of 1: the greatest has most.
        int[] one = {0, 0, 1, 0, 0, 0};
        for (int i = 0; i < 6; i++) {
            due("39 of 100", x.dividend(i, 100, 0), want[i]);
            due("39 of 9", x.dividend(i, 9, 0), nine[i]);
            due("39 of 1", x.dividend(i, 1, 0), one[i]);
            due("39 of 16", x.dividend(i, 16, 0), i == 0 ? 3 : i == 1 ? 5 : i == 2 ? 8 : 0);
        }
    }

    /** "of like ones the least" */
    private static void ofLikeRestsTheLeast() {
        CanalCompany x = holders(0, 7, 7, 0, 7, 7);
        int[][] rows = {{0, 0, 0, 0, 0, 0}, {0, 1, 0, 0, 0, 0}, {0, 1, 1, 0, 0, 0}, {0, 1, 1, 0, 1, 0},
            {0, 1, 1, 0, 1, 1}, {0, 2, 1, 0, 1, 1}};
        for (int coin = 0; coin < rows.length; coin++) {
            for (int i = 0; i < 6; i++) {
                due("39 of " + coin, x.dividend(i, coin, 0), rows[coin][i]);
            }
        }
    }

    /** "dividends to the penny" */
    private static void dividendToThePenny() {
        CanalCompany x = holders(1, 999, 17, 500, 0, 333);
        x.pass(1, 4, 13, 50);
        for (int coin : new int[] {0, 1, 2, 3, 4, 5, 6, 7, 1849, 1850, 1851, 999998, 999999}) {
            for (int day = 49; day <= 50; day++) {
                int all = 0;
                for (int i = 0; i < 6; i++) {
                    int gets = x.dividend(i, coin, day);
                    long exact = (long) coin * x.had(i, day);
                    CHECK.holds("39 a penny off", gets >= exact / 1850 && gets <= (exact + 1849) / 1850);
                    all += gets;
                }
                due("39 all of " + coin, all, coin);
            }
        }
    }

    /** "STATE: nobody has any." */
    private static void nobodyHasAny() {
        CanalCompany x = new CanalCompany();
        due("39 nobody", x.dividend(0, 0, 0), STATE);
        x.shares(5, 1);
        due("39 one", x.dividend(0, 0, 0), 0);
        x.shares(5, 0);
        due("39 nobody again", x.dividend(5, 999999, 99), STATE);
    }

    private static CanalCompany railway(int rate, int... loads) {
        CanalCompany x = new CanalCompany();
        for (int load : loads) {
            x.boat(0, 1, load, 1, 0, 0);
        }
        x.rate(rate);
        return x;
    }

    /** "if RATE times LOAD times MILES by 10 .. is less than its TOLL": not if it is the same. */
    private static void railwayIsLess() {
        for (int pence = 1; pence <= 99; pence++) {
            due("41 the same", railway(10 * pence, 40).over(pence), 0);
            due("41 less", railway(10 * pence - 1, 40).over(pence), 1);
        }
        due("41 at first RATE is 9", new CanalCompany().rate(9), 9);
    }

    /** "(rounded down)" */
    private static void railwayRoundedDown() {
        // A LOAD of 1 and 15 MILES: RATE 21 asks 31.5, RATE 20 asks 30, RATE 19 asks 28.5.
        CanalCompany x = new CanalCompany();
        x.boat(0, 2, 1, 1, 0, 0);
        int[][] rows = {{21, 2, 0}, {20, 2, 0}, {19, 2, 1}, {11, 1, 0}, {10, 1, 0}, {9, 1, 1}, {1, 1, 1}};
        for (int[] row : rows) {
            x.rate(row[0]);
            due("41 RATE " + row[0], x.over(row[1]), row[2]);
        }
        x.rate(1);
        due("41 1.5 is 1, which is not less than nothing", x.over(0), 0);
        x.rate(0);
        due("41 nothing is not less than nothing", x.over(0), 0);
    }

    /** "RATE (0 to 999; 9 at first)", "so many pence (0 to 99)" */
    private static void railwayAtItsEdges() {
        due("41 dearest", railway(999, 40).over(99), 0);
        due("41 as dear", railway(990, 40).over(99), 0);
        due("41 a little less", railway(989, 40).over(99), 1);
        due("41 for nothing", railway(0, 40).over(1), 1);
        due("41 without LOAD", railway(0, 0).over(99), 0);
        due("41 at first", railwayAtFirst().over(1), 1);
        due("41 at first", railwayAtFirst().over(0), 0);
    }

    private static CanalCompany railwayAtFirst() {
        CanalCompany x = new CanalCompany();
        x.boat(7, 6, 40, 1, 0, 0);
        return x;
    }

    /** "BOATS whose LOADS go over to THE RAILWAY (bits)" */
    private static void overAllBoats() {
        CanalCompany x = railway(0, 1, 0, 1, 0, 1, 0, 1, 0, 1, 0, 1, 1);
        due("41 twelve BOATS", x.over(1), 0b110101010101);
        due("41 no BOATS", new CanalCompany().over(99), 0);
    }

    /** "BEST PENCE (0 to 99) for all BOATS: most TOLLS of those that do not go over" */
    private static void bestPenceAtItsEdges() {
        int[][] rows = {{999, 99, 99 * 400}, {990, 99, 99 * 400}, {989, 98, 98 * 400}, {10, 1, 400}, {20, 2, 800},
            {19, 1, 400}, {9, 0, 0}, {0, 0, 0}};
        for (int[] row : rows) {
            due("42 pence at RATE " + row[0], railway(row[0], 40).bestPence(0), row[1]);
            due("42 bring at RATE " + row[0], railway(row[0], 40).bestPence(1), row[2]);
        }
        due("42 no BOATS", new CanalCompany().bestPence(0), 0);
        due("42 no BOATS", new CanalCompany().bestPence(1), 0);
        CanalCompany x = new CanalCompany();
        for (int i = 0; i < 12; i++) {
            x.boat(0, 7, 40, 1, 0, 0);
        }
        x.rate(999);
        due("42 the most of all", x.bestPence(1), 12 * 99 * 1600);
    }

    /** "of like ones fewest pence" */
    private static void fewestPence() {
        due("42 nothing is brought", railway(999, 0).bestPence(0), 0);
        due("42 nothing is brought", railway(999, 0).bestPence(1), 0);
        // MILES 15, LOAD 1: at RATE 11 it asks 16, so that 1 penny brings 15 and 2 pence drive it off.
        CanalCompany x = new CanalCompany();
        x.boat(0, 2, 1, 1, 0, 0);
        x.rate(11);
        due("42", x.bestPence(0), 1);
        due("42", x.bestPence(1), 15);
        due("42 it only asks", x.rate(11), 11);
    }

    /** "WORKS (8 at most, numbered)" */
    private static void eightWorks() {
        CanalCompany x = new CanalCompany();
        for (int i = 0; i < 8; i++) {
            due("43 number", x.work(999, 999, NONE), i);
            due("45 WORKS", x.count(9), i + 1);
        }
        long was = x.digest();
        due("43 the ninth", x.work(1, 999, NONE), FULL);
        due("43 nothing changed", x.digest(), was);
        due("44 all", x.plan(9999, 0), 255);
        due("44 all", x.plan(7992, 1), 7992);
        due("44 all", x.plan(7992, 2), 7992);
        due("44 a penny less", x.plan(7991, 0), 127);
        due("44 a penny less", x.plan(7991, 1), 6993);
    }

    /** "of COST together COIN at most" */
    private static void coinToThePenny() {
        CanalCompany x = new CanalCompany();
        due("44 no WORKS", x.plan(9999, 0), 0);
        due("44 no WORKS", x.plan(9999, 1), 0);
        due("44 no WORKS", x.plan(9999, 2), 0);
        x.work(1, 7, NONE);
        x.work(999, 900, NONE);
        // COIN, then the set, what it gives, its COST.
        int[][] rows = {{0, 0, 0, 0}, {1, 1, 7, 1}, {998, 1, 7, 1}, {999, 2, 900, 999}, {1000, 3, 907, 1000},
            {9999, 3, 907, 1000}};
        for (int[] row : rows) {
            for (int what = 0; what < 3; what++) {
                due("44 of " + row[0], x.plan(row[0], what), row[what + 1]);
            }
        }
    }

    /** "most given; of like ones least COST; of like ones least bits" */
    private static void planOfLikeOnes() {
        CanalCompany x = new CanalCompany();
        x.work(10, 5, NONE);
        x.work(9, 5, NONE);
        x.work(9, 5, NONE);
        x.work(1, 0, NONE);
        due("44 most given", x.plan(28, 0), 7);
        due("44 least COST, though of greater bits", x.plan(27, 0), 6);
        due("44 least COST", x.plan(10, 0), 2);
        due("44 least bits", x.plan(9, 0), 2);
        due("44 one that gives nothing costs", x.plan(1, 0), 0);
        due("44 one that gives nothing costs", x.plan(9999, 0), 7);
        due("44 one that gives nothing costs", x.plan(9999, 2), 28);
    }

    /** "but none without another one of lesser number, or NONE" */
    private static void withWhatItNeeds() {
        CanalCompany x = new CanalCompany();
        x.work(50, 0, NONE);
        x.work(10, 90, 0);
        x.work(10, 90, 1);
        x.work(30, 20, NONE);
        due("44 not without", x.plan(59, 0), 8);
        due("44 with what it needs", x.plan(60, 0), 3);
        due("44 with what that needs", x.plan(70, 0), 7);
        due("44 not the third without the second", x.plan(69, 0), 3);
        due("44 all", x.plan(100, 0), 15);
        CanalCompany y = new CanalCompany();
        for (int i = 0; i < 8; i++) {
            y.work(1, i == 7 ? 9 : 0, i - 1);
        }
        due("44 a whole chain", y.plan(8, 0), 255);
        due("44 a whole chain", y.plan(7, 0), 0);
    }
}
