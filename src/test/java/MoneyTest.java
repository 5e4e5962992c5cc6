/** Promises 32 to 44: money. */
public final class MoneyTest {
    private static final int NONE = -1, UNKNOWN = -101, OUTSIDE = -102, STATE = -103, FULL = -104;
    private static final Check CHECK = new Check();

    public static void main(String[] args) {
        bills();
        payments();
        debts();
        failures();
        shares();
        passes();
        dividends();
        railway();
        bestPence();
        works();
        plans();
        CHECK.end();
    }

    private static void due(String what, long got, long want) {
        CHECK.due(what, got, want);
    }

    private static void bills() {
        CanalCompany x = new CanalCompany();
        x.boat(0, 1, 10, 1, 0, 2);
        x.boat(0, 1, 10, 1, 0, 2);
        x.boat(0, 1, 10, 1, 0, 3);
        Canals.tell(x, "T:2");
        due("32 no credit", x.bill(0, 0), NONE);
        Canals.tell(x, "C:399?c=2");
        Canals.tell(x, "C:400?c=2&d>9");
        due("32", x.bill(0, 0), 200);
        due("32 already", x.bill(0, 0), STATE);
        due("32 above credit", x.bill(1, 0), NONE);
        due("32 nothing is owed more", x.pay(2, 0), 200);
        due("32 another day: not above credit", x.bill(1, 10), 400);
        due("32 already", x.bill(1, 10), STATE);
        due("32 another carrier", x.bill(2, 10), NONE);
        due("32 boat first", x.bill(3, 100), UNKNOWN);
        due("32 boat", x.bill(-1, 0), UNKNOWN);
        due("32 day before state", x.bill(0, 100), OUTSIDE);
        due("32 day", x.bill(2, -1), OUTSIDE);
        CanalCompany y = new CanalCompany();
        y.boat(0, 1, 10, 1, 0, 0);
        due("32 no toll", y.bill(0, 0), 0);
        due("32 but billed", y.bill(0, 0), STATE);
    }

    private static void payments() {
        CanalCompany x = new CanalCompany();
        x.boat(0, 1, 10, 1, 0, 1);
        Canals.tell(x, "T:9");
        Canals.tell(x, "C:9999");
        x.bill(0, 0);
        due("33", x.pay(1, 100), 800);
        due("33 no less than 0", x.pay(1, 999999), 0);
        due("33 the last carrier", x.pay(3, 0), 0);
        due("33 carrier first", x.pay(4, -1), UNKNOWN);
        due("33 carrier", x.pay(-1, 0), UNKNOWN);
        due("33 v", x.pay(0, -1), OUTSIDE);
        due("33 v", x.pay(0, 1000000), OUTSIDE);
    }

    private static void debts() {
        CanalCompany x = new CanalCompany();
        due("34", x.debt(3, 2, 9999), 0);
        due("34", x.debt(3, 2, 5), 9999);
        due("34 another rank", x.debt(3, 1, 0), 0);
        due("34 carrier", x.debt(4, 0, 0), UNKNOWN);
        due("34 carrier", x.debt(-1, 0, 0), UNKNOWN);
        due("34 rank", x.debt(0, 3, -1), UNKNOWN);
        due("34 rank", x.debt(0, -1, 0), UNKNOWN);
        due("34 v", x.debt(0, 0, -1), OUTSIDE);
        due("34 v", x.debt(0, 0, 10000), OUTSIDE);
    }

    private static void failures() {
        CanalCompany x = new CanalCompany();
        due("35 nothing owed", x.failed(0, 100), 0);
        x.debt(1, 0, 10);
        x.debt(2, 0, 10);
        x.debt(3, 0, 10);
        x.debt(0, 1, 100);
        x.debt(3, 1, 1);
        x.debt(3, 2, 7);
        due("35 nothing there", x.failed(1, 0), 0);
        due("35 by ones to those that are owed some", x.failed(0, 20), 0);
        due("35 by ones", x.failed(1, 20), 7);
        due("35 by ones", x.failed(2, 20), 7);
        due("35 by ones", x.failed(3, 20), 6);
        due("35 whole", x.failed(3, 30), 10);
        due("35 the next rank", x.failed(0, 31), 1);
        due("35 the next rank", x.failed(3, 31), 10);
        due("35 the next rank", x.failed(0, 130), 100);
        due("35 the next rank", x.failed(3, 130), 10);
        due("35 the last rank", x.failed(3, 137), 17);
        due("35 all", x.failed(3, 138), 18);
        due("35 more", x.failed(3, 99999), 18);
        CanalCompany y = new CanalCompany();
        y.debt(0, 0, 1);
        y.debt(1, 0, 5);
        due("35 a debt of 1 is some", y.failed(0, 3), 1);
        due("35 a debt of 1 is some", y.failed(1, 3), 2);
        due("35 carrier first", x.failed(4, -1), UNKNOWN);
        due("35 carrier", x.failed(-1, 0), UNKNOWN);
        due("35 there", x.failed(0, -1), OUTSIDE);
        due("35 there", x.failed(0, 100000), OUTSIDE);
    }

    private static void shares() {
        CanalCompany x = new CanalCompany();
        due("36", x.shares(5, 999), 0);
        due("36", x.shares(5, 10), 999);
        due("36 none", x.shares(5, 0), 10);
        due("36 again", x.shares(5, 10), 0);
        due("36 holder first", x.shares(6, -1), UNKNOWN);
        due("36 holder", x.shares(-1, 0), UNKNOWN);
        due("36 v", x.shares(0, 1000), OUTSIDE);
        due("36 v", x.shares(0, -1), OUTSIDE);
        x.pass(5, 0, 1, 0);
        due("36 passed", x.shares(0, 1), STATE);
        due("36 outside first", x.shares(0, 1000), OUTSIDE);
    }

    private static void passes() {
        CanalCompany x = new CanalCompany();
        x.shares(0, 30);
        x.shares(1, 999);
        due("37 a", x.pass(6, 0, 0, 0), UNKNOWN);
        due("37 a", x.pass(-1, 0, 1, 0), UNKNOWN);
        due("37 b", x.pass(0, 6, 1, 0), UNKNOWN);
        due("37 b", x.pass(0, -1, 1, 0), UNKNOWN);
        due("37 same", x.pass(0, 0, 1, 0), UNKNOWN);
        due("37 many", x.pass(0, 1, 0, 0), OUTSIDE);
        due("37 many", x.pass(0, 1, 1000, 0), OUTSIDE);
        due("37 day", x.pass(0, 1, 99, 100), OUTSIDE);
        due("37 day", x.pass(0, 1, 99, -1), OUTSIDE);
        due("37 not so many", x.pass(0, 1, 31, 0), STATE);
        due("37 all", x.pass(0, 2, 30, 5), 1);
        due("37 none left", x.pass(0, 2, 1, 5), STATE);
        due("37 ahead of the latest", x.pass(2, 0, 1, 4), OUTSIDE);
        due("37 the same day", x.pass(2, 0, 10, 5), 2);
        due("37 above 999", x.pass(2, 1, 20, 50), 3);
        due("38 as told", x.had(0, 4), 30);
        due("38 on day 0", x.had(0, 0), 30);
        due("38 the last holder", x.had(5, 99), 0);
        due("38 by that day", x.had(0, 5), 10);
        due("38", x.had(2, 49), 20);
        due("38", x.had(2, 50), 0);
        due("38", x.had(1, 99), 1019);
        due("38 holder first", x.had(6, 100), UNKNOWN);
        due("38 holder", x.had(-1, 0), UNKNOWN);
        due("38 day", x.had(0, 100), OUTSIDE);
        due("38 day", x.had(0, -1), OUTSIDE);
        for (int i = 3; i < 24; i++) {
            due("37 many times", x.pass(1, 3, 1, 50), i + 1);
        }
        due("37 full", x.pass(1, 3, 1, 50), FULL);
        due("37 state before full", x.pass(4, 3, 1, 50), STATE);
        due("45 passed", x.count(8), 24);
    }

    private static void dividends() {
        CanalCompany x = new CanalCompany();
        due("39 nobody has any", x.dividend(0, 5, 0), STATE);
        due("39 holder first", x.dividend(6, -1, 0), UNKNOWN);
        due("39 holder", x.dividend(-1, 0, 0), UNKNOWN);
        due("39 coin before state", x.dividend(0, -1, 0), OUTSIDE);
        due("39 coin", x.dividend(0, 1000000, 0), OUTSIDE);
        due("39 day", x.dividend(0, 0, 100), OUTSIDE);
        due("39 day", x.dividend(0, 0, -1), OUTSIDE);
        x.shares(0, 1);
        x.shares(1, 3);
        x.shares(2, 3);
        int[] ten = {2, 4, 4, 0, 0, 0};
        int[] two = {0, 1, 1, 0, 0, 0};
        int[] one = {0, 1, 0, 0, 0, 0};
        for (int i = 0; i < 6; i++) {
            // Of 10: rests 3, 2, 2 by 7, and one is left.
            due("39 ten", x.dividend(i, 10, 0), ten[i]);
            // Of 2: rests 2, 6, 6.
            due("39 two", x.dividend(i, 2, 0), two[i]);
            due("39 one, to the least of like ones", x.dividend(i, 1, 0), one[i]);
            due("39 nothing", x.dividend(i, 0, 0), 0);
        }
        x.pass(1, 5, 3, 9);
        due("39 before", x.dividend(5, 700, 8), 0);
        due("39 then", x.dividend(5, 700, 9), 300);
        CanalCompany y = new CanalCompany();
        for (int i = 0; i < 6; i++) {
            y.shares(i, 999);
        }
        due("39 most", y.dividend(0, 999999, 0), 166667);
        due("39 most", y.dividend(3, 999999, 0), 166666);
        long all = 0;
        for (int i = 0; i < 6; i++) {
            all += y.dividend(i, 999998, 50);
        }
        due("39 to the penny", all, 999998);
        CanalCompany z = new CanalCompany();
        z.shares(3, 1);
        due("39 one share in all", z.dividend(3, 77, 0), 77);
        due("39 one share in all", z.dividend(0, 77, 0), 0);
    }

    private static void railway() {
        CanalCompany x = new CanalCompany();
        due("40", x.rate(999), 9);
        due("40", x.rate(0), 999);
        due("40", x.rate(1000), OUTSIDE);
        due("40", x.rate(-1), OUTSIDE);
        due("40 nothing changed", x.rate(25), 0);
        due("41 no boats", x.over(99), 0);
        x.boat(0, 1, 20, 1, 0, 0);
        x.boat(0, 1, 0, 1, 0, 0);
        x.boat(0, 2, 1, 1, 0, 0);
        due("41 pence 2", x.over(2), 0);
        due("41 pence 3", x.over(3), 5);
        x.rate(30);
        due("41 not if it is as dear", x.over(3), 0);
        x.rate(21);
        // 21 times 15 by 10 is 31: rounded down, it is not below 30.
        due("41 rounded down", x.over(2), 0);
        x.rate(20);
        due("41 as dear", x.over(2), 0);
        x.rate(19);
        due("41 less", x.over(2), 5);
        x.rate(0);
        due("41 for nothing", x.over(1), 5);
        due("41 for nothing", x.over(0), 0);
        due("41 pence", x.over(100), OUTSIDE);
        due("41 pence", x.over(-1), OUTSIDE);
        CanalCompany y = new CanalCompany();
        y.boat(0, 2, 1, 1, 0, 0);
        y.rate(20);
        due("41", y.over(2), 0);
        y.rate(19);
        // 19 times 15 by 10 is 28.
        due("41", y.over(2), 1);
    }

    private static void bestPence() {
        CanalCompany x = new CanalCompany();
        due("42 no boats", x.bestPence(0), 0);
        due("42 no boats", x.bestPence(1), 0);
        x.boat(0, 1, 20, 1, 0, 0);
        x.rate(25);
        due("42 pence", x.bestPence(0), 2);
        due("42 bring", x.bestPence(1), 400);
        x.rate(10);
        due("42 one penny", x.bestPence(0), 1);
        due("42 one penny", x.bestPence(1), 200);
        x.rate(0);
        due("42 of like ones fewest", x.bestPence(0), 0);
        due("42 nothing", x.bestPence(1), 0);
        x.rate(999);
        due("42 most", x.bestPence(0), 99);
        due("42 most", x.bestPence(1), 99 * 200);
        x.rate(990);
        due("42 as dear", x.bestPence(0), 99);
        due("42 what", x.bestPence(2), OUTSIDE);
        due("42 what", x.bestPence(-1), OUTSIDE);
    }

    private static void works() {
        CanalCompany x = new CanalCompany();
        due("43 needs", x.work(0, 0, 0), UNKNOWN);
        due("43 needs", x.work(1, 0, -2), UNKNOWN);
        due("43 cost", x.work(0, 0, NONE), OUTSIDE);
        due("43 cost", x.work(1000, 0, NONE), OUTSIDE);
        due("43 gives", x.work(1, -1, NONE), OUTSIDE);
        due("43 gives", x.work(1, 1000, NONE), OUTSIDE);
        due("43", x.work(1, 0, NONE), 0);
        due("43 itself", x.work(1, 0, 1), UNKNOWN);
        for (int i = 1; i < 8; i++) {
            due("43 number", x.work(999, 999, i - 1), i);
        }
        due("43 full", x.work(1, 0, 7), FULL);
        due("43 unknown before full", x.work(1, 0, 8), UNKNOWN);
        due("43 outside before full", x.work(0, 0, 0), OUTSIDE);
        due("45 works", x.count(9), 8);
        due("44 a chain", x.plan(9999, 0), 255);
        due("44 a chain", x.plan(9999, 1), 7 * 999);
        due("44 a chain", x.plan(9999, 2), 1 + 7 * 999);
        due("44 a chain's head", x.plan(2998, 0), 15);
        due("44 a chain's head", x.plan(2997, 0), 7);
        due("44 nothing given, nothing spent", x.plan(999, 0), 0);
    }

    private static void plans() {
        CanalCompany x = new CanalCompany();
        due("44 no works", x.plan(0, 0), 0);
        x.work(20, 9, NONE);
        x.work(10, 12, 0);
        x.work(25, 15, NONE);
        x.work(25, 15, NONE);
        due("44 with what it needs", x.plan(30, 0), 3);
        due("44 not without", x.plan(29, 0), 4);
        due("44 least bits", x.plan(25, 0), 4);
        due("44 given", x.plan(25, 1), 15);
        due("44 cost", x.plan(25, 2), 25);
        due("44 most given", x.plan(50, 0), 12);
        due("44 cost just fits", x.plan(55, 0), 7);
        due("44 nothing", x.plan(19, 0), 0);
        due("44 coin", x.plan(-1, 0), OUTSIDE);
        due("44 coin", x.plan(10000, 0), OUTSIDE);
        due("44 what", x.plan(0, 3), OUTSIDE);
        due("44 what", x.plan(0, -1), OUTSIDE);
        CanalCompany y = new CanalCompany();
        y.work(9, 5, NONE);
        y.work(3, 5, NONE);
        due("44 of like ones least cost", y.plan(9, 0), 2);
        due("44 of like ones least cost", y.plan(9, 2), 3);
        y.work(3, 5, NONE);
        due("44 of like ones least bits", y.plan(5, 0), 2);
        due("44 two are cheaper than one", y.plan(9, 0), 6);
        CanalCompany z = new CanalCompany();
        z.work(2, 5, NONE);
        due("44 the first alone", z.plan(2, 0), 1);
        z.work(2, 6, NONE);
        due("44 a little more", z.plan(2, 0), 2);
    }
}
