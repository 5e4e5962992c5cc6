import java.math.BigInteger;

/** Promises 45 and 46: what is told. */
public final class ToldTest {
    private static final int OUTSIDE = -102;
    private static final Check CHECK = new Check();

    private long h = 283;
    // The same without wrapping, to see that it would be too great for a long.
    private BigInteger whole = BigInteger.valueOf(283);

    public static void main(String[] args) {
        counts();
        new ToldTest().digestOfANewOne();
        new ToldTest().digestOfAll();
        refusalsChangeNothing();
        everyChangeShows();
        countsFromNothingToAll();
        digestOfEmptyRowsHasNothing();
        new ToldTest().digestOfTheFullest();
        askingChangesNothing();
        CHECK.end();
    }

    private static void due(String what, long got, long want) {
        CHECK.due(what, got, want);
    }

    private void add(long... numbers) {
        for (long number : numbers) {
            h = 31 * h + number;
            whole = whole.multiply(BigInteger.valueOf(31)).add(BigInteger.valueOf(number));
        }
    }

    private static void counts() {
        CanalCompany x = filled();
        int[] want = {3, 2, 2, 1, 1, 2, 1, 2, 1, 2, 3, 1};
        for (int what = 0; what < want.length; what++) {
            due("45 " + what, x.count(what), want[what]);
        }
        due("45 what", x.count(12), OUTSIDE);
        due("45 what", x.count(-1), OUTSIDE);
        due("45 what", x.count(Integer.MIN_VALUE), OUTSIDE);
    }

    private static CanalCompany filled() {
        CanalCompany x = new CanalCompany();
        x.summit(4);
        x.pound(7, 2, 123);
        x.lock(0, 0, 61);
        x.lock(0, 1, 1);
        x.lock(6, 2, 2);
        x.taker(1, 2, 20, 1);
        x.taker(4, 1, 40, 0);
        x.boat(1, 0, 5, 1, 2, 3);
        x.boat(0, 7, 6, 4, 1, 2);
        x.hours(3, 7);
        x.letters(0x39353a54L);
        x.text();
        x.force(0, 3, 98);
        x.letters(0x010203L);
        x.comer(true, 2, 9);
        x.comer(false, 1, 8);
        x.turn(0);
        x.bank(3, 77);
        x.read(5, 1234, 56);
        x.read(0, 7, 8);
        x.debt(2, 1, 44);
        x.shares(4, 10);
        x.pass(4, 5, 3, 99);
        x.rate(12);
        x.work(5, 6, -1);
        x.work(7, 8, 0);
        return x;
    }

    private void digestOfANewOne() {
        add(3);
        for (int i = 0; i < 8; i++) {
            add(1000, 1000, 500);
        }
        for (int i = 0; i < 7; i++) {
            add(100, 0, 0, 0, 0, 0, 0);
        }
        add(0, 0, 0, 8000, 0);
        add(0, 0, 0, 0);
        add(0, 0, 0, 0, 0, 0, 0, 0, 0, 0, 0, 0);
        add(0, 0, 0, 0, 0, 0);
        add(9);
        add(0, 0, 0, 0, 0, 0, 0, 0, 0, 0, 0, 0);
        due("46 new", new CanalCompany().digest(), h);
        due("46 as longs, wrapping", new CanalCompany().digest(), whole.longValue());
        CHECK.holds("46 it did not wrap", whole.bitLength() > 64);
    }

    private void digestOfAll() {
        CanalCompany x = filled();
        add(4);
        for (int i = 0; i < 8; i++) {
            add(x.now(i, 0), 1000, i == 7 ? 123 : 500);
        }
        for (int i = 0; i < 7; i++) {
            add(i == 0 ? 61 : 100, i == 0 ? 1 : 0, i == 6 ? 2 : 0);
            add(x.lockIs(i, 0), x.lockIs(i, 1), x.lockIs(i, 2), x.lockIs(i, 3));
        }
        add(1, 2, 20, 1, 0);
        add(4, 1, 40, 0, -240);
        add(0, -1, 1, 0, 10, 5, 2, 3);
        add(0, 4, 0, 0, 40, 6, 1, 2);
        add(168, 1000240, x.sum(2), x.sum(3), 30);
        add(3, 98, 59);
        add(1, 2, 9, 0, 1, 8);
        add(3, 77);
        add(7, 8, 1234, 56);
        add(0, 0, 0, 0);
        add(0, 0, 0, 0, 0, 0, 0, 44, 0, 0, 0, 0);
        add(0, 0, 0, 0, 7, 3);
        add(12);
        add(5, 6, -1, 7, 8, 0);
        add(3, 2, 1);
        add(3, 2, 2, 1, 1, 2, 1, 2, 1, 2, 3, 1);
        due("46 all", x.digest(), h);
        due("46 the same again", x.digest(), h);
    }

    private static void refusalsChangeNothing() {
        CanalCompany x = filled();
        long was = x.digest();
        x.pound(0, 0, 1001);
        x.summit(2);
        x.lock(0, 0, 50);
        x.lock(6, 2, 3);
        x.taker(0, 0, 0, 0);
        x.boat(0, 7, 41, 1, 0, 0);
        x.hour(51);
        x.hours(101, 0);
        x.letters(127);
        x.text();
        x.force(0, 9, 8);
        x.comer(true, 24, 0);
        x.turn(5);
        x.bank(0, 1000);
        x.read(0, 10000, 0);
        x.bill(0, 0);
        x.bill(0, 100);
        x.pay(0, -1);
        x.debt(0, 3, 1);
        x.shares(0, 1);
        x.pass(4, 5, 8, 99);
        x.pass(4, 5, 1, 98);
        x.rate(1000);
        x.work(1, 1, 2);
        due("46 refusals", x.digest(), was);
    }

    private static void everyChangeShows() {
        long before = filled().digest();
        for (int i = 0; i < 14; i++) {
            CanalCompany x = filled();
            switch (i) {
                case 0 -> x.pound(0, 0, 1);
                case 1 -> x.lock(3, 2, 1);
                case 2 -> x.taker(0, 0, 1, 0);
                case 3 -> x.boat(0, 1, 1, 1, 0, 0);
                case 4 -> x.hour(0);
                case 5 -> x.letters(1);
                case 6 -> x.force(0, 3, 97);
                case 7 -> x.comer(true, 0, 0);
                case 8 -> x.turn(1);
                case 9 -> x.bank(0, 1);
                case 10 -> x.read(5, 1235, 56);
                case 11 -> x.debt(0, 0, 1);
                case 12 -> x.pass(4, 5, 1, 99);
                default -> x.rate(1);
            }
            CHECK.holds("46 change " + i + " does not show", x.digest() != before);
        }
    }

    /** "How many: 0 HOURS gone by, .. 11 how often turn() was done", each from its least to its most. */
    private static void countsFromNothingToAll() {
        int[] most = {600, 12, 12, 0, 16, 8, 10, 8, 24, 8, 60, 20};
        CanalCompany x = new CanalCompany();
        CanalCompany full = Canals.fullest();
        for (int what = 0; what < 12; what++) {
            due("45 at first " + what, x.count(what), 0);
            due("45 at most " + what, full.count(what), most[what]);
        }
        CanalCompany there = new CanalCompany();
        for (int i = 0; i < 12; i++) {
            there.boat(i % 7, i % 7 + 1, 0, 1, 0, 0);
        }
        due("45 none has come", there.count(3), 0);
        there.hours(2, 0);
        due("45 some have come", there.count(3), 7);
        there.hours(1, 0);
        due("45 all have come", there.count(3), 12);
    }

    private void digestOfTheFullest() {
        CanalCompany x = Canals.fullest();
        add(3);
        for (int i = 0; i < 8; i++) {
            add(i == 7 ? 0 : 1000, 1000, 9999);
        }
        for (int i = 0; i < 7; i++) {
            add(100, 0, 0, 0, 0, 0, 0);
        }
        // Of RANK 7 are 2, 5, 8 and 11; of RANK 8 the first two get what is left of 1000.
        int[] took = {0, 199, 198, 0, 27, 195, 0, 0, 192, 0, 0, 189};
        for (int i = 0; i < 12; i++) {
            add(0, 7, 200 - i, 9 - i % 3, took[i]);
        }
        for (int i = 0; i < 12; i++) {
            add(i % 7, 9, 0, 591, 5 * (8 - i % 7), 40 - i, 3 - i % 4, i % 4);
        }
        add(0, 1000, 0, 7000, 0);
        for (int i = 0; i < 16; i++) {
            add(i, 99 - i, 9999 - i);
        }
        for (int i = 0; i < 8; i++) {
            add(i % 2 == 0 ? 1 : 0, 23 - i, 99 - i);
        }
        for (int i = 0; i < 10; i++) {
            add(i % 8, 999 - i);
        }
        for (int i = 0; i < 8; i++) {
            add(9999 - i, 99 - i);
        }
        add(0, 0, 0, 0);
        for (int carrier = 0; carrier < 4; carrier++) {
            add(9999 - carrier, 9999 - carrier - 4, 9999 - carrier - 8);
        }
        add(999 - 24 * 40, 200, 200, 200, 200, 160);
        add(999);
        for (int i = 0; i < 8; i++) {
            add(999 - i, 999 - 2 * i, i - 1);
        }
        for (int i = 0; i < 60; i++) {
            add('~');
        }
        add(600, 12, 12, 0, 16, 8, 10, 8, 24, 8, 60, 20);
        due("46 the fullest", x.digest(), h);
        due("46 as longs, wrapping", x.digest(), whole.longValue());
    }

    /** "of each TAKER .. of each POUND READ ..": what is not there has no number. */
    private static void digestOfEmptyRowsHasNothing() {
        long untouched = new CanalCompany().digest();
        CanalCompany x = new CanalCompany();
        x.comer(true, 5, 9);
        x.read(3, 5, 1);
        Canals.write(x, "abc");
        CHECK.holds("46 they do not show", x.digest() != untouched);
        x.clear();
        x.unread();
        x.blank();
        due("46 none again", x.digest(), untouched);
        x.shares(0, 5);
        x.shares(0, 0);
        x.debt(0, 0, 5);
        x.debt(0, 0, 0);
        x.pound(0, 0, 5);
        x.pound(0, 0, 1000);
        x.rate(8);
        x.rate(9);
        due("46 as it was", x.digest(), untouched);
    }

    /** Calls that only ask leave all as it is. */
    private static void askingChangesNothing() {
        CanalCompany x = filled();
        long was = x.digest();
        for (int i = 0; i < 12; i++) {
            x.as(i, 3);
            x.acts(i, i % 3, 7);
            x.at(i, i % 5);
            x.lockIs(i, i % 4);
            x.now(i, i % 3);
            x.sum(i);
            x.fault();
            x.speaks(i % 2, i, 50);
            x.quarrel(i % 2, i, 50);
            x.toll(i, 50);
            x.judge(i);
            x.dry(i % 2, 1, 2, 3, 4);
            x.find(i % 2);
            x.failed(i, 99);
            x.had(i, 50);
            x.dividend(i, 50, 50);
            x.over(i);
            x.bestPence(i % 2);
            x.plan(i, i % 3);
            x.count(i);
            due("46 asking", x.digest(), was);
        }
    }
}
