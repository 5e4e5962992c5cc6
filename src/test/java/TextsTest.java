/** Promises 15 to 22: THE PAGE and the TEXTS. */
public final class TextsTest {
    private static final int NONE = -1, UNKNOWN = -101, OUTSIDE = -102, STATE = -103, FULL = -104;
    private static final Check CHECK = new Check();

    public static void main(String[] args) {
        letters();
        blank();
        faults();
        everyLetterThatFits();
        texts();
        force();
        conditions();
        whoSpeaks();
        tolls();
        CHECK.end();
    }

    private static void due(String what, long got, long want) {
        CHECK.due(what, got, want);
    }

    private static void letters() {
        CanalCompany x = new CanalCompany();
        due("15 none", x.letters(0), 0);
        due("15 one", x.letters(1), 1);
        due("15 126", x.letters(126), 2);
        due("15 127", x.letters(127), OUTSIDE);
        due("15 128", x.letters(128), OUTSIDE);
        due("15 the highest byte", x.letters(-1L << 56), OUTSIDE);
        due("15 behind a 0", x.letters(0x0100), OUTSIDE);
        due("15 behind a 0", x.letters(0x0100000000000041L), OUTSIDE);
        due("15 nothing changed", x.letters(0), 2);
        due("15 eight", x.letters(Canals.word("T:12?l<3")), 10);
        for (int i = 0; i < 6; i++) {
            x.letters(Canals.word("aaaaaaaa"));
        }
        due("15 58", x.count(10), 58);
        due("15 outside first", x.letters(Canals.word("aa\u007f")), OUTSIDE);
        due("15 above 60", x.letters(Canals.word("aaa")), FULL);
        due("15 to 60", x.letters(Canals.word("aa")), 60);
        due("15 61", x.letters(1), FULL);
        due("15 none more", x.letters(0), 60);
    }

    private static void blank() {
        CanalCompany x = new CanalCompany();
        due("16 none", x.blank(), 0);
        Canals.write(x, "T:12");
        due("16 four", x.blank(), 4);
        due("16 empty", x.count(10), 0);
    }

    private static void faultAt(String s, int want, boolean isText) {
        CanalCompany x = new CanalCompany();
        Canals.write(x, s);
        due("17 " + s, x.fault(), want);
        due("18 " + s, x.text(), isText ? 0 : STATE);
        due("18 the page then " + s, x.count(10), isText ? 0 : s.length());
    }

    private static void faults() {
        faultAt("", 0, false);
        faultAt("X", 0, false);
        faultAt("t:1", 0, false);
        faultAt("T", 1, false);
        faultAt("T1", 1, false);
        faultAt("T:", 2, false);
        faultAt("T:?", 2, false);
        faultAt("T:1", 3, true);
        faultAt("C:0000", 6, true);
        faultAt("C:00000", 6, false);
        faultAt("T:1234?", 7, false);
        faultAt("T:12a", 4, false);
        faultAt("T:12?x<1", 5, false);
        faultAt("T:12?T", 5, false);
        faultAt("T:12?l1", 6, false);
        faultAt("T:12?l<", 7, false);
        faultAt("T:12?l<=1", 7, false);
        faultAt("T:12?l<1", 8, true);
        faultAt("T:12?l<123", 10, true);
        faultAt("T:12?l<1234", 10, false);
        faultAt("T:12?l<1)", 8, false);
        faultAt("T:12?(l<1", 9, false);
        faultAt("T:12?(l<1)", 10, true);
        faultAt("T:12?(l<1))", 10, false);
        faultAt("T:12?(l<1)2", 10, false);
        faultAt("T:12?()", 6, false);
        faultAt("T:12?!", 6, false);
        faultAt("T:12?!!!d>9", 11, true);
        faultAt("T:12?!(d>9)&!c=1|m=5", 20, true);
        faultAt("T:12?d>9!c=1", 8, false);
        faultAt("T:12?d>9|", 9, false);
        faultAt("T:12?d>9|&", 9, false);
        faultAt("T:12?|d>9", 5, false);
        faultAt("T:12?d>9 ", 8, false);
        faultAt("T:12?d>9?d>9", 8, false);
        faultAt("T:1?((((((((((((((((((((((((((l<9))))))))))))))))))))))))))", 59, true);
        faultAt("T:1?((((((((((((((((((((((((((((((((((((((((((((((((((((((((", 60, false);
        faultAt("T:1?!!!!!!!!!!!!!!!!!!!!!!!!!!!!!!!!!!!!!!!!!!!!!!!!!!!!!l<9", 60, true);
    }

    /** Behind each beginning, each of the 126 letters: those that may stand there, and no others. */
    private static void everyLetterThatFits() {
        String digits = "0123456789";
        String[][] fits = {
            {"", "TC"}, {"T", ":"}, {"C:", digits}, {"T:1", digits + "?"}, {"T:123", digits + "?"},
            {"T:1234", "?"}, {"T:1?", "!(lmgcd"}, {"T:1?!", "!(lmgcd"}, {"T:1?(", "!(lmgcd"},
            {"T:1?l", "<=>"}, {"T:1?d", "<=>"}, {"T:1?l<", digits}, {"T:1?l<1", digits + "|&"},
            {"T:1?l<12", digits + "|&"}, {"T:1?l<123", "|&"}, {"T:1?(l<1", digits + "|&)"},
            {"T:1?(l<123", "|&)"}, {"T:1?(l<1)", "|&"}, {"T:1?((l<1)", "|&)"}, {"T:1?(l<1)&", "!(lmgcd"},
            {"T:1?l<1|", "!(lmgcd"}, {"T:1?(l<1|(m=1)&g>2)", "|&"},
        };
        for (String[] row : fits) {
            for (char letter = 1; letter <= 126; letter++) {
                CanalCompany x = new CanalCompany();
                Canals.write(x, row[0]);
                x.letters(letter);
                int at = row[0].length();
                due("17 " + row[0] + letter, x.fault(), row[1].indexOf(letter) >= 0 ? at + 1 : at);
            }
        }
    }

    private static void texts() {
        CanalCompany x = new CanalCompany();
        due("18 none", x.text(), STATE);
        for (int i = 0; i < 16; i++) {
            due("18 number", Canals.tell(x, "T:" + i), i);
        }
        Canals.write(x, "T:1");
        due("18 full", x.text(), FULL);
        due("18 the page stays", x.count(10), 3);
        Canals.write(x, "x");
        due("18 state before full", x.text(), STATE);
        due("45 texts", x.count(4), 16);
        due("19 the sixteenth", x.force(15, 0, 0), 1);
        due("19 no seventeenth", x.force(16, 0, 0), UNKNOWN);
    }

    private static void force() {
        CanalCompany x = new CanalCompany();
        Canals.tell(x, "T:7");
        x.boat(0, 1, 1, 1, 0, 0);
        due("19 all at first", x.speaks(0, 0, 0), 0);
        due("19 all at first", x.speaks(0, 0, 99), 0);
        due("19", x.force(0, 10, 20), 1);
        due("19 ahead", x.speaks(0, 0, 9), NONE);
        due("19 from", x.speaks(0, 0, 10), 0);
        due("19 to", x.speaks(0, 0, 20), 0);
        due("19 behind", x.speaks(0, 0, 21), NONE);
        due("19 one day", x.force(0, 99, 99), 1);
        due("19 one day", x.speaks(0, 0, 99), 0);
        due("19 unknown first", x.force(1, 5, 4), UNKNOWN);
        due("19 unknown", x.force(-1, 0, 0), UNKNOWN);
        due("19 turned round", x.force(0, 5, 4), OUTSIDE);
        due("19 from", x.force(0, -1, 4), OUTSIDE);
        due("19 to", x.force(0, 0, 100), OUTSIDE);
        due("19 from", x.force(0, 100, 100), OUTSIDE);
        due("19 nothing changed", x.speaks(0, 0, 5), NONE);
    }

    /** A BOAT of LOAD 20, 30 MILES, GOODS 1, CARRIER 2, on DAY 40. */
    private static void holds(String condition, boolean so) {
        CanalCompany x = new CanalCompany();
        x.boat(6, 1, 20, 1, 1, 2);
        due("18 " + condition, Canals.tell(x, "T:5?" + condition), 0);
        due("20 " + condition, x.speaks(0, 0, 40), so ? 0 : NONE);
    }

    private static void conditions() {
        holds("l=20", true);
        holds("l<20", false);
        holds("l<21", true);
        holds("l>19", true);
        holds("l>20", false);
        holds("l=020", true);
        holds("m=30", true);
        holds("g=1", true);
        holds("c=2", true);
        holds("d=40", true);
        holds("d>999", false);
        holds("!l=20", false);
        holds("!!l=20", true);
        holds("!l=1", true);
        holds("l=20&m=1", false);
        holds("l=20|m=1", true);
        holds("l=1|m=30&g=2", false);
        holds("l=20|m=30&g=2", true);
        holds("(l=20|m=30)&g=2", false);
        holds("g=2&l=20|m=30", true);
        holds("g=2&(l=20|m=30)", false);
        holds("!(g=2&l=20)|m=1", true);
        holds("!(g=1&l=20)|m=1", false);
        holds("!g=2&l=20", true);
        holds("!(l=1)&!(m=1)", true);
        holds("!(!(l=1)&!(m=1))", false);
        holds("!(l=1|!(m=30&!(g=2)))", true);
        holds("l=1|m=1|g=1", true);
        holds("l=20&m=30&g=2", false);
        holds("((l=20))&((m=30|l=1))", true);
        holds("l=20|(m=1)", true);
        holds("l=1|(m=1)", false);
        holds("l=20|((m=1)&(g=2))", true);
        holds("l=1&(m=30)", false);
        holds("!(l=1)&(m=30|g=2)&!(c=3)", true);
        holds("l=20&!((m=30))|c=3", false);
        holds("!((((((((((((((((((((((l=20))))))))))))))))))))))", false);
    }

    private static void whoSpeaks() {
        CanalCompany x = new CanalCompany();
        x.boat(0, 3, 20, 1, 1, 0);
        due("20 none", x.speaks(0, 0, 0), NONE);
        due("21 none", x.quarrel(0, 0, 0), 0);
        Canals.tell(x, "T:3");
        Canals.tell(x, "C:900");
        Canals.tell(x, "T:4?l>10");
        Canals.tell(x, "T:003?g=1");
        Canals.tell(x, "T:4?l>30");
        due("20 the last that holds", x.speaks(0, 0, 0), 3);
        due("20 credit", x.speaks(1, 0, 0), 1);
        due("21 of another number", x.quarrel(0, 0, 0), 1);
        due("21 credit", x.quarrel(1, 0, 0), 0);
        x.force(3, 50, 60);
        due("20 not in force", x.speaks(0, 0, 49), 2);
        due("21 not in force", x.quarrel(0, 0, 49), 1);
        x.force(2, 0, 0);
        due("20", x.speaks(0, 0, 49), 0);
        due("21", x.quarrel(0, 0, 49), 0);
        due("20 act", x.speaks(2, 9, 0), OUTSIDE);
        due("20 act", x.speaks(-1, 0, 0), OUTSIDE);
        due("20 day", x.speaks(0, 9, 100), OUTSIDE);
        due("20 day", x.speaks(0, 0, -1), OUTSIDE);
        due("20 boat", x.speaks(0, 1, 0), UNKNOWN);
        due("20 boat", x.speaks(0, -1, 0), UNKNOWN);
        due("21 act", x.quarrel(2, 9, 0), OUTSIDE);
        due("21 day", x.quarrel(0, 9, 100), OUTSIDE);
        due("21 boat", x.quarrel(0, 1, 0), UNKNOWN);
    }

    private static void tolls() {
        CanalCompany x = new CanalCompany();
        x.boat(0, 7, 40, 1, 0, 0);
        due("22 without", x.toll(0, 0), 0);
        Canals.tell(x, "T:9999?d<50");
        due("22 most", x.toll(0, 0), 9999 * 40 * 40);
        due("22 day", x.toll(0, 50), 0);
        due("22 unknown first", x.toll(1, 100), UNKNOWN);
        due("22 unknown", x.toll(-1, 0), UNKNOWN);
        due("22 day", x.toll(0, 100), OUTSIDE);
        due("22 day", x.toll(0, -1), OUTSIDE);
        x.hours(9, 0);
        due("22 miles from where it was told", x.toll(0, 0), 9999 * 40 * 40);
    }
}
