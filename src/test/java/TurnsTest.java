/** Promises 23 to 27: TURNS at one LOCK, and DRY. */
public final class TurnsTest {
    private static final int NONE = -1, OUTSIDE = -102, STATE = -103, FULL = -104;
    private static final Check CHECK = new Check();

    public static void main(String[] args) {
        comers();
        noComers();
        fewestFillings();
        hoursDecide();
        likeOrders();
        notAllInTime();
        asked();
        judge();
        dry();
        dryRefusals();
        CHECK.end();
    }

    private static void due(String what, long got, long want) {
        CHECK.due(what, got, want);
    }

    private static void best(CanalCompany x, int fillings, int last, int... order) {
        due("25 fillings", x.turn(0), fillings);
        due("25 last", x.turn(1), last);
        for (int i = 0; i < 8; i++) {
            due("25 place " + i, x.turn(10 + i), i < order.length ? order[i] : NONE);
        }
    }

    private static void comers() {
        CanalCompany x = new CanalCompany();
        due("23 from", x.comer(true, -1, 0), OUTSIDE);
        due("23 from", x.comer(true, 24, 0), OUTSIDE);
        due("23 by", x.comer(true, 0, -1), OUTSIDE);
        due("23 by", x.comer(true, 0, 100), OUTSIDE);
        for (int i = 0; i < 8; i++) {
            due("23 number", x.comer(i % 2 == 0, 23, i % 2 == 0 ? 0 : 99), i);
        }
        due("23 full", x.comer(true, 0, 0), FULL);
        due("23 outside before full", x.comer(true, 24, 0), OUTSIDE);
        due("45 comers", x.count(5), 8);
        due("24", x.clear(), 8);
        due("24", x.clear(), 0);
        due("23 anew", x.comer(true, 0, 0), 0);
    }

    private static void noComers() {
        best(new CanalCompany(), 0, NONE);
        due("26", new CanalCompany().judge(0), STATE);
        due("26", new CanalCompany().judge(-1), STATE);
    }

    private static void fewestFillings() {
        CanalCompany x = new CanalCompany();
        for (int i = 0; i < 8; i++) {
            x.comer(i < 4, 0, 99);
        }
        best(x, 4, 7, 0, 4, 1, 5, 2, 6, 3, 7);
        CanalCompany y = new CanalCompany();
        for (int i = 0; i < 3; i++) {
            y.comer(false, 0, 99);
        }
        best(y, 3, 2, 0, 1, 2);
        CanalCompany z = new CanalCompany();
        z.comer(false, 0, 99);
        z.comer(true, 0, 99);
        best(z, 1, 1, 1, 0);
        z.comer(false, 0, 99);
        best(z, 2, 2, 0, 1, 2);
    }

    private static void hoursDecide() {
        // Fewer fillings count for more than an early end.
        CanalCompany x = new CanalCompany();
        x.comer(false, 0, 99);
        x.comer(true, 20, 99);
        best(x, 1, 21, 1, 0);
        // But all have to be by their hours.
        CanalCompany y = new CanalCompany();
        y.comer(false, 0, 20);
        y.comer(true, 20, 99);
        best(y, 2, 20, 0, 1);
        // Of like fillings, the one that ends first.
        CanalCompany z = new CanalCompany();
        z.comer(true, 5, 99);
        z.comer(true, 0, 99);
        z.comer(true, 1, 99);
        best(z, 3, 5, 1, 2, 0);
    }

    private static void likeOrders() {
        CanalCompany x = new CanalCompany();
        x.comer(true, 3, 99);
        x.comer(true, 0, 99);
        x.comer(true, 0, 99);
        x.comer(true, 5, 99);
        // COMER 0 behind 1 leaves 2 time enough ahead of 3.
        best(x, 4, 5, 1, 0, 2, 3);
        CanalCompany y = new CanalCompany();
        y.comer(true, 0, 99);
        y.comer(true, 9, 99);
        y.comer(true, 1, 99);
        best(y, 3, 9, 0, 2, 1);
        CanalCompany z = new CanalCompany();
        z.comer(true, 0, 99);
        z.comer(true, 0, 1);
        z.comer(true, 0, 0);
        best(z, 3, 2, 2, 1, 0);
    }

    private static void notAllInTime() {
        CanalCompany x = new CanalCompany();
        x.comer(true, 4, 4);
        best(x, 1, 4, 0);
        x.comer(false, 4, 4);
        best(x, NONE, NONE);
        due("24", x.clear(), 2);
        CanalCompany z = new CanalCompany();
        z.comer(true, 0, 0);
        due("25 one", z.turn(0), 1);
        z.clear();
        due("25 none any more", z.turn(0), 0);
        due("25 none any more", z.turn(10), NONE);
        CanalCompany y = new CanalCompany();
        y.comer(true, 5, 4);
        best(y, NONE, NONE);
    }

    private static void asked() {
        CanalCompany x = new CanalCompany();
        due("25 what", x.turn(2), OUTSIDE);
        due("25 what", x.turn(9), OUTSIDE);
        due("25 what", x.turn(18), OUTSIDE);
        due("25 what", x.turn(-1), OUTSIDE);
        due("45 refusals do not count", x.count(11), 0);
        for (int i = 0; i < 20; i++) {
            due("25", x.turn(0), 0);
            due("45 asked", x.count(11), i + 1);
        }
        due("25 20 times", x.turn(0), STATE);
        due("25 outside first", x.turn(2), OUTSIDE);
        due("45 asked", x.count(11), 20);
        x.comer(true, 0, 0);
        x.clear();
        due("25 clear() does not give it back", x.turn(0), STATE);
    }

    private static void judge() {
        CanalCompany x = new CanalCompany();
        x.comer(true, 0, 9);
        due("26 one", x.judge(0), 1);
        due("26 another", x.judge(1), OUTSIDE);
        due("26 too long", x.judge(8), OUTSIDE);
        x.comer(false, 0, 9);
        x.comer(true, 2, 3);
        due("26", x.judge(0_012), 2);
        due("26", x.judge(0_120), 3);
        due("26 down, up, up", x.judge(0_102), 3);
        due("26 the last is late", x.judge(0_210), 2);
        due("26 below nothing", x.judge(-1), OUTSIDE);
        due("26 twice", x.judge(0_011), OUTSIDE);
        due("26 twice", x.judge(0_112), OUTSIDE);
        due("26 no such", x.judge(0_013), OUTSIDE);
        due("26 too long", x.judge(0_1012), OUTSIDE);
        due("26 too long", x.judge(Integer.MAX_VALUE), OUTSIDE);
        due("26 too short", x.judge(0_12), 2);
        x.clear();
        x.comer(true, 5, 4);
        x.comer(true, 0, 0);
        due("26 first", x.judge(0_01), -1000);
        due("26 second", x.judge(0_10), -1001);
        x.clear();
        for (int i = 0; i < 8; i++) {
            x.comer(i % 2 == 0, 0, i);
        }
        due("26 eight", x.judge(0_01234567), 4);
        due("26 eight", x.judge(0_12345670), -1007);
        due("26 eight", x.judge(0_76543210), -1004);
        due("26 eight", x.judge(0_01234566), OUTSIDE);
        due("26 eight", x.judge(1 << 24), OUTSIDE);
    }

    private static void dry() {
        CanalCompany x = new CanalCompany();
        due("27 may", x.dry(0, 0, 100, 0, 0), 5);
        due("27 must", x.dry(1, 0, 100, 0, 0), NONE);
        due("27 must", x.dry(1, 100, 100, 0, 0), 5);
        due("27 not below", x.dry(0, 0, 0, 0, 0), NONE);
        due("27 first day", x.dry(0, 0, 501, 0, 0), 0);
        due("27 what comes is behind what is used", x.dry(0, 0, 9999, 499, 500), 0);
        due("27 to nothing at least", x.dry(0, 0, 9999, 500, 500), NONE);
        due("27 to full at most", x.dry(1, 600, 600, 9999, 9999), NONE);
        x.pound(3, 1, 9999);
        x.pound(3, 0, 9999);
        x.pound(3, 2, 9601);
        due("27 day 398", x.dry(0, 0, 1, 0, 0), 398);
        x.pound(3, 2, 9600);
        due("27 day 399", x.dry(1, 1, 1, 0, 0), 399);
        x.pound(3, 2, 9599);
        due("27 day 400", x.dry(1, 1, 1, 0, 0), NONE);
        x.pound(3, 0, 9000);
        due("27 below at once, though it rises", x.dry(1, 0, 0, 1, 1), 0);
        CanalCompany y = new CanalCompany();
        y.summit(5);
        y.pound(5, 0, 600);
        due("27 of the summit", y.dry(0, 0, 101, 0, 0), 0);
        due("27 nothing changed", y.now(5, 0), 600);
    }

    private static void dryRefusals() {
        CanalCompany x = new CanalCompany();
        due("27 which", x.dry(2, 0, 0, 0, 0), OUTSIDE);
        due("27 which", x.dry(-1, 0, 0, 0, 0), OUTSIDE);
        due("27 use", x.dry(0, -1, 0, 0, 0), OUTSIDE);
        due("27 use", x.dry(0, 0, 10000, 0, 0), OUTSIDE);
        due("27 use", x.dry(0, 2, 1, 0, 0), OUTSIDE);
        due("27 come", x.dry(0, 0, 0, -1, 0), OUTSIDE);
        due("27 come", x.dry(0, 0, 0, 0, 10000), OUTSIDE);
        due("27 come", x.dry(0, 0, 0, 2, 1), OUTSIDE);
        due("27 edges", x.dry(0, 9999, 9999, 9999, 9999), NONE);
    }
}
