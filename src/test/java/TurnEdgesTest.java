/** The edges that the document names for TURNS, DRY and BANKS: each test has the sentence that it holds. */
public final class TurnEdgesTest {
    private static final int NONE = -1, STATE = -103, FULL = -104;
    private static final Check CHECK = new Check();

    public static void main(String[] args) {
        withoutComers();
        eightComers();
        cleared();
        byItsHour();
        ownFirstHour();
        latestHours();
        noneInTime();
        oneIsLate();
        emptyAtFirst();
        fewestFillings();
        lastIsThroughFirst();
        firstComerIsLeast();
        placesBeyondTheLast();
        twentyTimes();
        placeOfTheFirstLate();
        judgedByHours();
        figuresOfBaseEight();
        dryAtLeast();
        dryDays();
        dryToNothing();
        dryToFull();
        dryMayAndMust();
        dryOfTheSummit();
        tenBanks();
        missOnBothSides();
        latestReading();
        readingsOfAllPounds();
        nothingRead();
        fewestAndRivals();
        CHECK.end();
    }

    private static void due(String what, long got, long want) {
        CHECK.due(what, got, want);
    }

    /** COMERS told as texts: "u" or "d", from, by. */
    private static CanalCompany comers(String... rows) {
        CanalCompany x = new CanalCompany();
        for (String row : rows) {
            String[] parts = row.split(" ");
            x.comer(parts[0].equals("u"), Integer.parseInt(parts[1]), Integer.parseInt(parts[2]));
        }
        due("45 COMERS", x.count(5), rows.length);
        return x;
    }

    private static void best(CanalCompany x, int fillings, int last, int... order) {
        int done = x.count(11);
        due("25 FILLINGS", x.turn(0), fillings);
        due("25 the last", x.turn(1), last);
        for (int i = 0; i < 8; i++) {
            due("25 place " + i, x.turn(10 + i), i < order.length ? order[i] : NONE);
        }
        due("45 turn() was done", x.count(11), done + 10);
    }

    /** "1 the hour in which the last passes (NONE without COMERS)" */
    private static void withoutComers() {
        CanalCompany x = new CanalCompany();
        best(x, 0, NONE);
        due("24 none", x.clear(), 0);
        due("26 none", x.judge(0), STATE);
    }

    /** "COMERS (8 at most)" */
    private static void eightComers() {
        CanalCompany x = new CanalCompany();
        for (int i = 0; i < 8; i++) {
            due("23 number", x.comer(false, 0, 99), i);
            due("45 COMERS", x.count(5), i + 1);
        }
        long was = x.digest();
        due("23 the ninth", x.comer(true, 0, 99), FULL);
        due("23 nothing changed", x.digest(), was);
        best(x, 8, 7, 0, 1, 2, 3, 4, 5, 6, 7);
    }

    /** "No COMERS: how many there were." */
    private static void cleared() {
        CanalCompany x = comers("u 0 9", "d 0 9");
        due("25 two", x.turn(0), 1);
        due("24 two", x.clear(), 2);
        due("45 none", x.count(5), 0);
        due("26 none", x.judge(1), STATE);
        due("25 none", x.turn(0), 0);
        due("25 none", x.turn(1), NONE);
        due("25 none", x.turn(10), NONE);
        due("23 numbered from 0 again", x.comer(false, 3, 9), 0);
        due("25 the new one", x.turn(1), 3);
        due("25 the new one", x.turn(0), 1);
        due("45 clear() does not count", x.count(11), 6);
    }

    /** "it is by its hour, if that hour is not behind it" */
    private static void byItsHour() {
        best(comers("u 5 5"), 1, 5, 0);
        best(comers("u 5 4"), NONE, NONE);
        best(comers("u 0 0"), 1, 0, 0);
        best(comers("u 0 0", "u 0 1"), 2, 1, 0, 1);
        best(comers("u 0 0", "u 0 0"), NONE, NONE);
        best(comers("u 0 1", "u 0 1"), 2, 1, 0, 1);
        best(comers("u 23 99"), 1, 23, 0);
        best(comers("u 23 23"), 1, 23, 0);
        best(comers("u 23 22"), NONE, NONE);
        best(comers("d 0 99"), 1, 0, 0);
    }

    /** "the first hour behind that of the one ahead that is not ahead of its own first" */
    private static void ownFirstHour() {
        CanalCompany x = comers("u 4 4", "u 4 5", "u 6 6", "u 9 9");
        best(x, 4, 9, 0, 1, 2, 3);
        due("26", x.judge(0_0123), 4);
        CanalCompany y = comers("u 4 4", "u 4 4");
        due("26 the second passes in hour 5", y.judge(0_01), -1001);
        due("26 the second passes in hour 5", y.judge(0_10), -1001);
    }

    /** "from an hour on (0 to 23); to be through by an hour (0 to 99)" */
    private static void latestHours() {
        CanalCompany x = new CanalCompany();
        for (int i = 0; i < 8; i++) {
            x.comer(i % 2 == 0, 23, 30);
        }
        best(x, 4, 30, 0, 1, 2, 3, 4, 5, 6, 7);
        CanalCompany y = new CanalCompany();
        for (int i = 0; i < 8; i++) {
            y.comer(i % 2 == 0, 23, 29);
        }
        best(y, NONE, NONE);
        due("26 the eighth is late", y.judge(0_01234567), -1007);
        CanalCompany z = new CanalCompany();
        for (int i = 0; i < 8; i++) {
            z.comer(true, 23, i == 0 ? 30 : 99);
        }
        best(z, 8, 30, 0, 1, 2, 3, 4, 5, 6, 7);
    }

    /** "none: not all can be by theirs" */
    private static void noneInTime() {
        CanalCompany x = comers("u 0 2", "d 0 2", "u 0 2", "d 0 2");
        best(x, NONE, NONE);
        x.clear();
        due("25 one COMER again", x.comer(true, 0, 2), 0);
        due("25 then there is one", x.turn(0), 1);
    }

    private static void oneIsLate() {
        // Seven have time; the eighth never does.
        CanalCompany x = new CanalCompany();
        for (int i = 0; i < 7; i++) {
            x.comer(i % 2 == 0, 0, 99);
        }
        x.comer(false, 9, 8);
        best(x, NONE, NONE);
    }

    /** "The LOCK is EMPTY at first"; "one that goes down needs one only if the LOCK is EMPTY" */
    private static void emptyAtFirst() {
        due("26 down first", comers("d 0 9").judge(0), 1);
        due("26 up first", comers("u 0 9").judge(0), 1);
        CanalCompany x = comers("u 0 9", "d 0 9", "u 0 9", "d 0 9");
        due("26 up, down, up, down", x.judge(0_0123), 2);
        due("26 down, up, down, up", x.judge(0_1032), 3);
        due("26 up, up, down, down", x.judge(0_0213), 3);
        due("26 down, down, up, up", x.judge(0_1302), 4);
    }

    /** "all by their hours; fewest FILLINGS" */
    private static void fewestFillings() {
        // Down ahead of up would end in hour 10, with one FILLING more.
        best(comers("d 0 11", "u 10 99"), 1, 11, 1, 0);
        best(comers("d 0 10", "u 10 99"), 2, 10, 0, 1);
        best(comers("d 0 99", "d 0 99", "u 0 99", "u 0 99"), 2, 3, 2, 0, 3, 1);
        best(comers("d 0 0", "d 0 99", "u 0 99", "u 0 99"), 3, 3, 0, 2, 1, 3);
    }

    /** "of like ones the last is through first" */
    private static void lastIsThroughFirst() {
        best(comers("u 9 99", "u 0 99"), 2, 9, 1, 0);
        best(comers("u 1 99", "u 0 99"), 2, 1, 1, 0);
        best(comers("u 0 99", "u 0 99"), 2, 1, 0, 1);
        best(comers("u 1 99", "u 0 99", "u 3 99"), 3, 3, 0, 1, 2);
        best(comers("u 2 99", "u 0 99", "u 3 99"), 3, 3, 1, 0, 2);
    }

    /** "of like ones the one whose first COMER is least, then the second, .." */
    private static void firstComerIsLeast() {
        best(comers("u 0 99", "u 0 99", "u 5 99"), 3, 5, 0, 1, 2);
        // COMER 2 could pass first, but the last is through in hour 9 all the same.
        best(comers("u 2 99", "u 2 99", "u 0 99", "u 9 99"), 4, 9, 0, 1, 2, 3);
        best(comers("u 2 99", "u 2 99", "u 0 2", "u 9 99"), 4, 9, 2, 0, 1, 3);
        // COMER 0 would be in time everywhere, but not those behind it.
        best(comers("u 0 99", "u 0 1", "u 0 0"), 3, 2, 2, 1, 0);
        best(comers("u 0 99", "u 0 2", "u 0 0"), 3, 2, 2, 0, 1);
        best(comers("d 0 99", "d 0 99", "d 0 99"), 3, 2, 0, 1, 2);
        best(comers("d 0 99", "u 0 99", "d 0 99", "u 0 99"), 2, 3, 1, 0, 3, 2);
        best(comers("d 0 99", "u 0 99", "d 0 99"), 2, 2, 0, 1, 2);
    }

    /** "10 and i the i-th COMER; NONE: there is none" */
    private static void placesBeyondTheLast() {
        for (int many = 0; many <= 8; many++) {
            CanalCompany x = new CanalCompany();
            for (int i = 0; i < many; i++) {
                x.comer(true, 0, 99);
            }
            for (int i = 0; i < 8; i++) {
                due("25 place " + i + " of " + many, x.turn(10 + i), i < many ? i : NONE);
            }
        }
    }

    /** "STATE: it was done 20 times." */
    private static void twentyTimes() {
        CanalCompany x = comers("u 0 9", "u 0 0", "u 0 0");
        for (int i = 0; i < 19; i++) {
            due("25 none in time", x.turn(i % 8 + 10), NONE);
        }
        due("45", x.count(11), 19);
        due("25 refused, not done", x.turn(18), CanalCompany.OUTSIDE);
        due("45", x.count(11), 19);
        due("25 the twentieth", x.turn(0), NONE);
        due("45", x.count(11), 20);
        long was = x.digest();
        due("25 the twenty-first", x.turn(0), STATE);
        due("25 nothing changed", x.digest(), was);
        due("26 judge() goes on", x.judge(0_012), -1001);
    }

    /** "else -1000, less the place of the first that is not" */
    private static void placeOfTheFirstLate() {
        for (int late = 1; late < 8; late++) {
            CanalCompany x = new CanalCompany();
            for (int i = 0; i < 8; i++) {
                x.comer(true, 0, i < late ? i : i - 1);
            }
            due("26 place " + late, x.judge(0_01234567), -1000 - late);
        }
        CanalCompany x = comers("u 1 0", "u 0 99");
        due("26 the first", x.judge(0_01), -1000);
        due("26 the second", x.judge(0_10), -1001);
    }

    private static void judgedByHours() {
        CanalCompany x = comers("u 0 99", "d 0 1", "u 7 8");
        due("26 just by its hour", x.judge(0_012), 2);
        due("26 the first of two that are late", x.judge(0_021), -1002);
        due("26 late", x.judge(0_201), -1002);
        due("26 late", x.judge(0_210), -1001);
        due("26 in time", x.judge(0_120), 3);
        due("26 in time", x.judge(0_102), 3);
    }

    /** "told as figures of base 8 (the first COMER's highest; all COMERS, each once)" */
    private static void figuresOfBaseEight() {
        CanalCompany x = new CanalCompany();
        for (int i = 0; i < 8; i++) {
            x.comer(i == 7, 0, 99);
        }
        due("26 the greatest ORDER", x.judge(0_76543210), 7);
        due("26 the least ORDER", x.judge(0_01234567), 8);
        due("26 one above", x.judge(0_76543211), CanalCompany.OUTSIDE);
        due("26 nine figures", x.judge(0_101234567), CanalCompany.OUTSIDE);
        due("26 a sign", x.judge(-0_01234567), CanalCompany.OUTSIDE);
        due("26 judge() may be done often", x.count(11), 0);
    }

    private static CanalCompany summitWith(int water, int full, int least) {
        CanalCompany x = new CanalCompany();
        x.pound(3, 0, 0);
        x.pound(3, 1, full);
        x.pound(3, 0, water);
        x.pound(3, 2, least);
        return x;
    }

    /** "at whose end it may be below LEAST": not at it. */
    private static void dryAtLeast() {
        for (int which = 0; which <= 1; which++) {
            due("27 at LEAST", summitWith(500, 1000, 500).dry(which, 0, 0, 0, 0), NONE);
            due("27 one below", summitWith(499, 1000, 500).dry(which, 0, 0, 0, 0), 0);
            due("27 falls to LEAST", summitWith(600, 1000, 500).dry(which, 100, 100, 0, 0), 1);
            due("27 falls below", summitWith(600, 1000, 500).dry(which, 101, 101, 0, 0), 0);
            due("27 rises to LEAST by the end", summitWith(400, 1000, 500).dry(which, 0, 0, 100, 100), NONE);
            due("27 not quite", summitWith(400, 1000, 500).dry(which, 0, 0, 99, 99), 0);
            due("27 never below nothing", summitWith(1000, 1000, 0).dry(which, 9999, 9999, 0, 0), NONE);
            due("27 LEAST of 1", summitWith(1000, 1000, 1).dry(which, 9999, 9999, 0, 0), 0);
            due("27 LEAST above FULL", summitWith(100, 100, 101).dry(which, 0, 0, 9999, 9999), 0);
            due("27 LEAST at FULL", summitWith(100, 100, 100).dry(which, 0, 0, 9999, 9999), NONE);
            due("27 the greatest LEAST", summitWith(9999, 9999, 9999).dry(which, 0, 0, 0, 0), NONE);
            due("27 the greatest LEAST", summitWith(9999, 9999, 9999).dry(which, 1, 1, 0, 0), 0);
        }
    }

    /** "the first DAY (0 to 399)"; "NONE: not within 400 DAYS" */
    private static void dryDays() {
        for (int which = 0; which <= 1; which++) {
            for (int day : new int[] {0, 1, 2, 200, 398, 399}) {
                due("27 DAY " + day, summitWith(1000, 1000, 1000 - day).dry(which, 1, 1, 0, 0), day);
            }
            due("27 DAY 400", summitWith(1000, 1000, 600).dry(which, 1, 1, 0, 0), NONE);
            due("27 DAY 399 by rising too", summitWith(1000, 1000, 601).dry(which, 8, 8, 7, 7), 399);
            due("27 DAY 400 by rising too", summitWith(1000, 1000, 600).dry(which, 8, 8, 7, 7), NONE);
        }
    }

    /** "falls each DAY by USE .. (.. to 0 at least), then rises" */
    private static void dryToNothing() {
        due("27 from 0 up", summitWith(1000, 1000, 300).dry(0, 9999, 9999, 300, 300), NONE);
        due("27 from 0 up", summitWith(1000, 1000, 300).dry(0, 9999, 9999, 299, 299), 0);
        due("27 from 0 up", summitWith(0, 1000, 300).dry(1, 1, 1, 300, 300), NONE);
    }

    /** "then rises by what comes from least to most (to FULL at most)" */
    private static void dryToFull() {
        due("27 no more than FULL", summitWith(1000, 1000, 1001).dry(1, 0, 0, 1, 1), 0);
        due("27 no more than FULL", summitWith(0, 1000, 1001).dry(1, 1500, 1500, 2000, 2000), 0);
        due("27 not quite to FULL", summitWith(1000, 1000, 1000).dry(1, 10, 10, 9, 9), 0);
        due("27 FULL each DAY", summitWith(1000, 1000, 1000).dry(1, 10, 10, 10, 10), NONE);
        due("27 FULL each DAY", summitWith(1000, 1000, 1000).dry(1, 10, 10, 9999, 9999), NONE);
        due("27 FULL is no gain", summitWith(900, 1000, 950).dry(1, 0, 0, 9999, 9999), NONE);
    }

    /** "the first DAY .. at whose end it may be below LEAST, the first at which it must be" */
    private static void dryMayAndMust() {
        CanalCompany x = summitWith(1000, 1000, 500);
        due("27 may: most USE, least comes", x.dry(0, 10, 110, 10, 60), 5);
        due("27 must: least USE, most comes", x.dry(1, 10, 110, 10, 60), NONE);
        due("27 must", x.dry(1, 70, 110, 10, 20), 10);
        due("27 may", x.dry(0, 70, 110, 10, 20), 5);
        due("27 must by USE alone", x.dry(1, 100, 101, 0, 0), 5);
        due("27 may by USE alone", x.dry(0, 100, 126, 0, 0), 3);
        due("27 may by what comes alone", x.dry(0, 100, 100, 0, 100), 5);
        due("27 must by what comes alone", x.dry(1, 100, 100, 0, 100), NONE);
        due("27 it only asks", x.now(3, 0), 1000);
    }

    /** "THE SUMMIT's WATER as it is now" */
    private static void dryOfTheSummit() {
        for (int summit = 1; summit <= 6; summit++) {
            CanalCompany x = new CanalCompany();
            x.summit(summit);
            for (int i = 0; i < 8; i++) {
                x.pound(i, 0, i == summit ? 777 : 500);
            }
            due("27 SUMMIT " + summit, x.dry(1, 1, 1, 0, 0), 277);
        }
    }

    /** "BANKS (10 at most, numbered)" */
    private static void tenBanks() {
        CanalCompany x = new CanalCompany();
        for (int i = 0; i < 10; i++) {
            due("28 number", x.bank(7, 1 << Math.min(i, 9)), i);
            due("45 BANKS", x.count(6), i + 1);
        }
        long was = x.digest();
        due("28 the eleventh", x.bank(7, 1), FULL);
        due("28 nothing changed", x.digest(), was);
        for (int fell : new int[] {0, 1, 512, 513, 1022, 1023}) {
            x.read(7, fell, 0);
            due("31 fell by " + fell, x.find(0), fell);
            due("31 no RIVALS", x.find(1), 0);
        }
        x.read(7, 1024, 0);
        due("31 more than all", x.find(0), NONE);
        due("31 more than all", x.find(1), NONE);
        x.read(7, 1024, 1);
        due("31 more than all by MISS", x.find(0), 1023);
        CanalCompany y = new CanalCompany();
        for (int i = 0; i < 10; i++) {
            y.bank(0, 999);
        }
        y.read(0, 9999, 9);
        due("31 the most that can leak", y.find(0), 1023);
        y.read(0, 9999, 8);
        due("31 the most that can leak", y.find(0), NONE);
    }

    /** "more or less by MISS at most" */
    private static void missOnBothSides() {
        for (int miss : new int[] {0, 1, 50, 99}) {
            CanalCompany x = new CanalCompany();
            x.bank(0, 500);
            x.read(0, 500 - miss, miss);
            due("31 less by MISS", x.find(0), 1);
            x.read(0, 500 + miss, miss);
            due("31 more by MISS", x.find(0), 1);
            x.read(0, 500 - miss - 1, miss);
            due("31 one below", x.find(0), NONE);
            x.read(0, 500 + miss + 1, miss);
            due("31 one above", x.find(0), NONE);
            x.read(0, miss, miss);
            due("31 no BANK", x.find(0), 0);
            x.read(0, miss + 1, miss);
            due("31 no BANK is too little", x.find(0), NONE);
        }
    }

    /** "the latest for each POUND" */
    private static void latestReading() {
        CanalCompany x = new CanalCompany();
        x.bank(2, 10);
        x.bank(2, 20);
        x.read(2, 10, 0);
        due("31", x.find(0), 1);
        x.read(2, 20, 0);
        due("31 the latest", x.find(0), 2);
        x.read(2, 15, 5);
        due("31 the latest, with its MISS", x.find(0), 1);
        due("31 the latest, with its MISS", x.find(1), 1);
        due("45 POUNDS READ", x.count(7), 1);
    }

    private static void readingsOfAllPounds() {
        CanalCompany x = new CanalCompany();
        for (int i = 0; i < 8; i++) {
            x.bank(i, 7);
            due("29", x.read(i, 7, 0), 1);
            due("45 POUNDS READ", x.count(7), i + 1);
            due("31", x.find(0), (1 << i + 1) - 1);
        }
        x.read(7, 8, 0);
        due("31 one that is not EXPLAINED is enough", x.find(0), NONE);
        x.read(7, 7, 0);
        x.read(0, 6, 0);
        due("31 one that is not EXPLAINED is enough", x.find(0), NONE);
        due("30 eight", x.unread(), 8);
    }

    /** "Nothing was READ: how many POUNDS were." */
    private static void nothingRead() {
        CanalCompany x = new CanalCompany();
        due("30 none", x.unread(), 0);
        due("31 without BANKS", x.find(0), 0);
        due("31 without BANKS", x.find(1), 0);
        x.read(0, 1, 0);
        due("31 without BANKS nothing leaks", x.find(0), NONE);
        due("31 without BANKS nothing leaks", x.find(1), NONE);
        due("30 one", x.unread(), 1);
        due("45 none", x.count(7), 0);
        due("31 nothing to EXPLAIN", x.find(0), 0);
        x.bank(0, 1);
        due("31 the set of none", x.find(0), 0);
        due("31 no other of none", x.find(1), 0);
        x.read(0, 0, 0);
        due("45 a POUND that did not fall was READ", x.count(7), 1);
        due("31 the set of none", x.find(0), 0);
    }

    /** "an EXPLAINING set of fewest, of like ones of least bits; RIVALS: others of so many" */
    private static void fewestAndRivals() {
        CanalCompany x = new CanalCompany();
        x.bank(0, 3);
        x.bank(0, 4);
        x.bank(0, 7);
        x.read(0, 7, 0);
        due("31 one is fewer than two, though of greater bits", x.find(0), 4);
        due("31 sets of two are no RIVALS", x.find(1), 0);
        x.bank(0, 7);
        due("31 of least bits", x.find(0), 4);
        due("31 one RIVAL", x.find(1), 1);
        x.bank(1, 7);
        due("31 one elsewhere is none", x.find(1), 1);
        x.read(0, 14, 0);
        due("31 two of like amounts", x.find(0), 12);
        due("31 no RIVAL", x.find(1), 0);
        x.read(0, 11, 0);
        due("31 two", x.find(0), 6);
        due("31 one RIVAL", x.find(1), 1);
    }
}
