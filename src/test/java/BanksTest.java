/** Promises 28 to 31: BANKS and what was READ. */
public final class BanksTest {
    private static final int NONE = -1, UNKNOWN = -101, OUTSIDE = -102, FULL = -104;
    private static final Check CHECK = new Check();

    public static void main(String[] args) {
        banks();
        readings();
        fewest();
        rivals();
        CHECK.end();
    }

    private static void due(String what, long got, long want) {
        CHECK.due(what, got, want);
    }

    private static void banks() {
        CanalCompany x = new CanalCompany();
        due("28 pound first", x.bank(8, 0), UNKNOWN);
        due("28 pound", x.bank(-1, 1), UNKNOWN);
        due("28 amount", x.bank(0, 0), OUTSIDE);
        due("28 amount", x.bank(0, 1000), OUTSIDE);
        for (int i = 0; i < 10; i++) {
            due("28 number", x.bank(i % 8, i % 2 == 0 ? 1 : 999), i);
        }
        due("28 full", x.bank(0, 1), FULL);
        due("28 outside before full", x.bank(0, 0), OUTSIDE);
        due("45 banks", x.count(6), 10);
    }

    private static void readings() {
        CanalCompany x = new CanalCompany();
        due("29 pound first", x.read(8, -1, 0), UNKNOWN);
        due("29 pound", x.read(-1, 0, 0), UNKNOWN);
        due("29 fell", x.read(0, -1, 0), OUTSIDE);
        due("29 fell", x.read(0, 10000, 0), OUTSIDE);
        due("29 miss", x.read(0, 0, -1), OUTSIDE);
        due("29 miss", x.read(0, 0, 100), OUTSIDE);
        due("30 none", x.unread(), 0);
        due("29", x.read(0, 9999, 99), 1);
        due("29", x.read(0, 0, 0), 1);
        due("29", x.read(7, 5, 0), 1);
        due("45 read", x.count(7), 2);
        due("30", x.unread(), 2);
        due("30", x.unread(), 0);
        due("45 read", x.count(7), 0);
    }

    private static void fewest() {
        CanalCompany x = new CanalCompany();
        due("31 nothing to explain", x.find(0), 0);
        due("31 nothing to explain", x.find(1), 0);
        x.bank(1, 20);
        x.bank(1, 35);
        x.bank(2, 20);
        x.bank(1, 55);
        due("31 nothing was read", x.find(0), 0);
        x.read(1, 55, 0);
        due("31 one", x.find(0), 8);
        due("31 no rival of one", x.find(1), 0);
        x.read(1, 53, 1);
        due("31 none", x.find(0), NONE);
        due("31 none", x.find(1), NONE);
        x.read(1, 53, 2);
        due("31 by miss", x.find(0), 8);
        x.read(1, 57, 2);
        due("31 by miss", x.find(0), 8);
        x.read(2, 20, 0);
        due("31 two pounds", x.find(0), 12);
        x.read(3, 1, 0);
        due("31 no bank there", x.find(0), NONE);
        x.read(3, 1, 1);
        due("31 by miss", x.find(0), 12);
        x.read(1, 110, 0);
        due("31 all", x.find(0), 15);
        due("31 what", x.find(2), OUTSIDE);
        due("31 what", x.find(-1), OUTSIDE);
    }

    private static void rivals() {
        CanalCompany x = new CanalCompany();
        for (int i = 0; i < 10; i++) {
            x.bank(5, 10);
        }
        x.read(5, 50, 0);
        due("31 of least bits", x.find(0), 31);
        due("31 rivals", x.find(1), 251);
        x.read(5, 50, 9);
        due("31 of least bits", x.find(0), 31);
        x.read(5, 45, 5);
        due("31 fewer", x.find(0), 15);
        due("31 rivals of four alone", x.find(1), 209);
        x.read(5, 101, 0);
        due("31 none", x.find(1), NONE);
        CanalCompany y = new CanalCompany();
        y.bank(0, 7);
        y.bank(0, 5);
        y.bank(0, 2);
        y.bank(1, 3);
        y.bank(1, 3);
        y.read(0, 7, 0);
        y.read(1, 3, 0);
        due("31", y.find(0), 9);
        due("31 the rival has the other bank", y.find(1), 1);
    }
}
