/** Objects in states that several tests start from, and ways to tell them texts. */
final class Canals {
    private Canals() {
    }

    /** The letters of a text of at most eight, as letters() takes them. */
    static long word(String s) {
        long w = 0;
        for (int i = s.length() - 1; i >= 0; i--) {
            w = w << 8 | s.charAt(i);
        }
        return w;
    }

    static void write(CanalCompany x, String s) {
        for (int i = 0; i < s.length(); i += 8) {
            x.letters(word(s.substring(i, Math.min(i + 8, s.length()))));
        }
    }

    /** THE PAGE is emptied first. */
    static int tell(CanalCompany x, String s) {
        x.blank();
        write(x, s);
        return x.text();
    }

    static void passHours(CanalCompany x, int many) {
        for (int left = many; left > 0; left -= 100) {
            x.hours(Math.min(left, 100), 0);
        }
    }

    /** Something of every kind, but no HOUR has gone by, no BOAT is told and no SHARES are PASSED. */
    static CanalCompany prepared() {
        CanalCompany x = new CanalCompany();
        x.summit(4);
        x.pound(2, 2, 450);
        x.lock(1, 1, 1);
        x.lock(2, 2, 2);
        x.taker(1, 2, 20, 1);
        x.taker(4, 1, 40, 0);
        x.taker(2, 5, 30, 9);
        tell(x, "T:3?l>4");
        tell(x, "C:9000");
        tell(x, "T:2?d>60");
        x.force(2, 50, 98);
        x.comer(true, 2, 9);
        x.comer(false, 1, 8);
        x.comer(true, 0, 7);
        x.bank(3, 77);
        x.bank(3, 33);
        x.read(3, 78, 1);
        x.read(5, 0, 8);
        x.debt(2, 1, 44);
        x.debt(1, 1, 55);
        x.shares(4, 10);
        x.shares(1, 7);
        x.rate(12);
        x.work(5, 6, -1);
        x.work(7, 8, 0);
        write(x, "T:7?");
        return x;
    }

    /** The same with two BOATS, one of them billed, HOURS gone by and SHARES PASSED. */
    static CanalCompany busy() {
        CanalCompany x = prepared();
        x.boat(1, 0, 5, 1, 2, 3);
        x.boat(0, 7, 6, 4, 1, 2);
        x.boat(6, 2, 40, 2, 0, 3);
        x.hours(3, 7);
        x.bill(0, 10);
        x.pass(4, 5, 3, 20);
        x.pass(4, 1, 2, 30);
        x.turn(0);
        return x;
    }

    /** As many of each kind as there may be; no BOAT moves, since each POUND is too low. */
    static CanalCompany fullest() {
        CanalCompany x = new CanalCompany();
        for (int i = 0; i < 8; i++) {
            x.pound(i, 2, 9999);
            x.comer(i % 2 == 0, 23 - i, 99 - i);
            x.read(i, 9999 - i, 99 - i);
            x.work(999 - i, 999 - 2 * i, i - 1);
        }
        for (int i = 0; i < 12; i++) {
            x.taker(0, 7, 200 - i, 9 - i % 3);
            x.boat(i % 7, 7, 40 - i, 9, 3 - i % 4, i % 4);
        }
        for (int i = 0; i < 10; i++) {
            x.bank(i % 8, 999 - i);
        }
        for (int i = 0; i < 16; i++) {
            tell(x, (i % 2 == 0 ? "T:" : "C:") + (9999 - i));
            x.force(i, i, 99 - i);
        }
        write(x, "~".repeat(60));
        x.shares(0, 999);
        for (int i = 0; i < 24; i++) {
            x.pass(0, 1 + i % 5, 40, 99);
        }
        for (int i = 0; i < 12; i++) {
            x.debt(i % 4, i / 4, 9999 - i);
        }
        x.rate(999);
        for (int i = 0; i < 20; i++) {
            x.turn(0);
        }
        passHours(x, 600);
        return x;
    }
}
