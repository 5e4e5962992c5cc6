/** The edges that the document names for THE PAGE and the TEXTS: each test has the sentence that it holds. */
public final class TextEdgesTest {
    private static final int NONE = -1, STATE = -103, FULL = -104;
    private static final Check CHECK = new Check();

    public static void main(String[] args) {
        emptyPage();
        fullPage();
        blankPage();
        oneToFourDigits();
        oneToThreeDigits();
        placeOfTheFirstFault();
        noTextLeavesThePage();
        sixteenTexts();
        fromADayToADay();
        allDaysAtFirst();
        comparisons();
        moreThanAnyValue();
        oneTermAtLeast();
        allFactors();
        bracketsBehindATerm();
        turnedRound();
        deepBrackets();
        toldLast();
        othersOfAnotherNumber();
        tollWithout();
        tollAtItsEdges();
        actsApart();
        CHECK.end();
    }

    private static void due(String what, long got, long want) {
        CHECK.due(what, got, want);
    }

    private static String many(String s, int times) {
        return s.repeat(times);
    }

    private static CanalCompany page(String s) {
        CanalCompany x = new CanalCompany();
        Canals.write(x, s);
        due("15 letters of " + s, x.count(10), s.length());
        return x;
    }

    private static void isText(String s) {
        CanalCompany x = page(s);
        due("17 fault of " + s, x.fault(), s.length());
        due("18 text of " + s, x.text(), 0);
        due("18 THE PAGE is empty then", x.count(10), 0);
        due("45 TEXTS", x.count(4), 1);
    }

    private static void isNone(String s, int fault) {
        CanalCompany x = page(s);
        long was = x.digest();
        due("17 fault of " + s, x.fault(), fault);
        due("18 text of " + s, x.text(), STATE);
        due("18 nothing changed", x.digest(), was);
    }

    /** "THE PAGE is empty: how many letters it had." */
    private static void emptyPage() {
        CanalCompany x = new CanalCompany();
        due("15 no letters", x.letters(0), 0);
        due("16 none", x.blank(), 0);
        due("17 none", x.fault(), 0);
        due("18 none", x.text(), STATE);
        due("45 none", x.count(10), 0);
    }

    /** "FULL: above 60" */
    private static void fullPage() {
        isText("T:1?" + many("!", 53) + "d<9");
        isText("T:1?" + many("(", 26) + "l<99" + many(")", 26));
        isNone("T:1?" + many("(", 56), 60);
        isNone("T:1?" + many("!", 52) + "d<9)", 59);
        CanalCompany x = page("T:1?" + many("!", 53) + "d<9");
        due("15 a letter more", x.letters('9'), FULL);
        due("17 it is a TEXT all the same", x.fault(), 60);
        due("18 it is a TEXT all the same", x.text(), 0);
    }

    /** "Letters come behind THE PAGE" */
    private static void blankPage() {
        CanalCompany x = page("C:12");
        due("15 behind them", x.letters('3'), 5);
        due("16 five", x.blank(), 5);
        due("16 none is left", x.blank(), 0);
        due("15 the first again", x.letters('T'), 1);
        due("17 what was there before does not count", x.fault(), 1);
        Canals.write(x, ":7");
        due("18", x.text(), 0);
        x.boat(0, 1, 1, 1, 0, 0);
        due("22 by the new letters", x.toll(0, 0), 70);
    }

    /** "a number (one to four digits)" */
    private static void oneToFourDigits() {
        isNone("T:", 2);
        isNone("T:?", 2);
        isNone("T:?l<1", 2);
        isText("T:0");
        isText("T:00");
        isText("C:000");
        isText("C:9999");
        isNone("C:99990", 6);
        isText("C:9999?l<1");
        isNone("C:99990?l<1", 6);
    }

    /** "and one to three digits" */
    private static void oneToThreeDigits() {
        isNone("T:1?l<", 6);
        isNone("T:1?l<&", 6);
        isText("T:1?l<0");
        isText("T:1?l=00");
        isText("T:1?l>999");
        isNone("T:1?l>9990", 9);
        isText("T:1?l>999&m<1");
        isNone("T:1?l>9990&m<1", 9);
    }

    /** "The place (from 0) of the first letter of THE PAGE that no TEXT (of any length) has there" */
    private static void placeOfTheFirstFault() {
        isNone("c:1", 0);
        isNone("TC:1", 1);
        isNone("T:1??", 4);
        isNone("T:1?l<1??", 7);
        isNone("T:1?l<1&&l<1", 8);
        isNone("T:1?l<1||l<1", 8);
        isNone("T:1?(l<1", 8);
        isNone("T:1?(l<1))", 9);
        isNone("T:1?l<1)", 7);
        isNone("T:1?)", 4);
        isNone("T:1?(l<1)(m<1)", 9);
        isNone("T:1?(l<1)l<1", 9);
        isNone("T:1?l<1!", 7);
        isNone("T:1?l!<1", 5);
        isNone("T:1?1<l", 4);
        isNone("T:1 ", 3);
        isNone("XXXX", 0);
        // What follows a fault does not count, and no length is too long for a TEXT that could be.
        isNone("T:1?xl<1", 4);
        isNone("T:1?" + many("(l<1&", 11), 59);
    }

    /** "STATE: it is none": nothing has changed, so that letters may still be written behind. */
    private static void noTextLeavesThePage() {
        CanalCompany x = page("T:5?l>");
        due("18 it is none", x.text(), STATE);
        due("18 the letters stay", x.count(10), 6);
        x.letters('3');
        due("18 now it is one", x.text(), 0);
    }

    /** "TEXTS (16 at most, numbered)" */
    private static void sixteenTexts() {
        CanalCompany x = new CanalCompany();
        x.boat(0, 1, 1, 1, 0, 0);
        for (int i = 0; i < 16; i++) {
            due("18 number", Canals.tell(x, "T:" + (100 + i)), i);
            due("45 TEXTS", x.count(4), i + 1);
            due("20 the last one speaks", x.speaks(0, 0, 0), i);
            due("21 all others QUARREL", x.quarrel(0, 0, 0), i);
            due("22 by its number", x.toll(0, 0), 10 * (100 + i));
        }
        Canals.write(x, "C:9");
        long was = x.digest();
        due("18 the seventeenth", x.text(), FULL);
        due("18 nothing changed", x.digest(), was);
        due("20 nor does it speak", x.speaks(1, 0, 0), NONE);
    }

    /** "In force from a DAY to a DAY" */
    private static void fromADayToADay() {
        int[][] rows = {{0, 0}, {99, 99}, {0, 99}, {1, 98}, {40, 41}, {50, 50}};
        for (int[] row : rows) {
            CanalCompany x = new CanalCompany();
            x.boat(0, 1, 1, 1, 0, 0);
            Canals.tell(x, "T:5");
            Canals.tell(x, "C:7");
            due("19", x.force(0, row[0], row[1]), 1);
            for (int day = 0; day < 100; day++) {
                boolean in = day >= row[0] && day <= row[1];
                due("20 DAY " + day, x.speaks(0, 0, day), in ? 0 : NONE);
                due("22 DAY " + day, x.toll(0, day), in ? 50 : 0);
                due("20 the other TEXT", x.speaks(1, 0, day), 1);
            }
        }
    }

    /** "(0 to 99; all at first)" */
    private static void allDaysAtFirst() {
        CanalCompany x = new CanalCompany();
        x.boat(0, 1, 1, 1, 0, 0);
        Canals.tell(x, "T:5");
        for (int day = 0; day < 100; day++) {
            due("20 DAY " + day, x.speaks(0, 0, day), 0);
        }
    }

    private static void holds(CanalCompany x, int day, String condition, boolean so) {
        due("18 " + condition, Canals.tell(x, "T:5?" + condition) >= 0 ? 1 : 0, 1);
        due("20 " + condition, x.speaks(0, 0, day), so ? x.count(4) - 1 : NONE);
        x.force(x.count(4) - 1, day == 99 ? 0 : 99, day == 99 ? 0 : 99);
    }

    /** '"<", "=" or ">"' for each letter, at the least and the most that it can be. */
    private static void comparisons() {
        int[][] boats = {{0, 1, 0, 0, 0, 0}, {0, 7, 40, 3, 3, 98}, {6, 4, 17, 2, 1, 50}};
        for (int[] b : boats) {
            int miles = 5 * (Math.abs(b[0] - b[1]) + 1);
            int[] values = {b[2], miles, b[3], b[4], b[5]};
            for (int i = 0; i < 5; i++) {
                CanalCompany x = new CanalCompany();
                x.boat(b[0], b[1], b[2], 1, b[3], b[4]);
                for (int told = Math.max(0, values[i] - 1); told <= values[i] + 1; told++) {
                    char letter = "lmgcd".charAt(i);
                    holds(x, b[5], letter + "<" + told, values[i] < told);
                    holds(x, b[5], letter + "=" + told, values[i] == told);
                    holds(x, b[5], letter + ">" + told, values[i] > told);
                }
            }
        }
    }

    /** Three digits tell more than any letter can be; zeros ahead tell nothing. */
    private static void moreThanAnyValue() {
        CanalCompany x = new CanalCompany();
        x.boat(0, 7, 40, 9, 3, 3);
        for (String letter : "l m g c d".split(" ")) {
            holds(x, 50, letter + "<999", true);
            holds(x, 50, letter + ">999", false);
            holds(x, 50, letter + "=999", false);
        }
        CanalCompany y = new CanalCompany();
        y.boat(0, 7, 40, 9, 3, 3);
        holds(y, 7, "d=007", true);
        holds(y, 7, "d=07", true);
        holds(y, 7, "d=70", false);
        holds(y, 7, "d<008", true);
        holds(y, 7, "l=040", true);
    }

    /** 'TERMS with "|" between (one of them at least holds)' */
    private static void oneTermAtLeast() {
        for (int bits = 0; bits < 16; bits++) {
            StringBuilder s = new StringBuilder();
            for (int i = 0; i < 4; i++) {
                s.append(i == 0 ? "" : "|").append((bits >> i & 1) != 0 ? "c=2" : "c=1");
            }
            CanalCompany x = new CanalCompany();
            x.boat(0, 1, 0, 1, 0, 2);
            holds(x, 0, s.toString(), bits != 0);
            holds(x, 0, "!(" + s + ")", bits == 0);
        }
    }

    /** 'FACTORS with "&" between (all hold)' */
    private static void allFactors() {
        for (int bits = 0; bits < 16; bits++) {
            StringBuilder s = new StringBuilder();
            for (int i = 0; i < 4; i++) {
                s.append(i == 0 ? "" : "&").append((bits >> i & 1) != 0 ? "c=2" : "c=1");
            }
            CanalCompany x = new CanalCompany();
            x.boat(0, 1, 0, 1, 0, 2);
            holds(x, 0, s.toString(), bits == 15);
            holds(x, 0, "!(" + s + ")", bits != 15);
            holds(x, 0, s + "|" + s, bits == 15);
            holds(x, 0, "g=0|" + s, true);
            holds(x, 0, s + "|g=0", true);
        }
    }

    /** '"(" CONDITION ")"': what held outside is neither lost in a bracket nor seen there. */
    private static void bracketsBehindATerm() {
        CanalCompany x = new CanalCompany();
        x.boat(0, 1, 0, 1, 0, 2);
        holds(x, 0, "c=2|(c=1)", true);
        holds(x, 0, "c=2|(c=1)&c=1", true);
        holds(x, 0, "c=2|c=1&(c=1)", true);
        holds(x, 0, "c=2|((c=1))&c=1", true);
        holds(x, 0, "c=2|!(c=1)&c=1", true);
        holds(x, 0, "c=1|(c=1)", false);
        holds(x, 0, "c=2|c=1&(c=2|c=1)&c=1", true);
        holds(x, 0, "(c=2|(c=1)&c=1)&c=1", false);
        holds(x, 0, "(c=2|(c=1)&c=1)&c=2", true);
        holds(x, 0, "!(c=2|(c=1)&c=1)", false);
        holds(x, 0, "!(c=1|(c=2)&c=1)", true);
        holds(x, 0, "(c=1|c=1)|(c=2)", true);
    }

    /** '"!" and a FACTOR': it turns round the one FACTOR behind it and no more. */
    private static void turnedRound() {
        CanalCompany x = new CanalCompany();
        x.boat(0, 1, 0, 1, 0, 2);
        holds(x, 0, "!c=1&c=2", true);
        holds(x, 0, "!c=2|c=2", true);
        holds(x, 0, "!c=1&c=1", false);
        holds(x, 0, "!(c=1)&c=1", false);
        holds(x, 0, "!(c=1|c=2)|c=2", true);
        holds(x, 0, "!(!c=2)", true);
        holds(x, 0, "!(!(c=2)&c=2)", true);
        for (int times = 1; times <= 10; times++) {
            CanalCompany y = new CanalCompany();
            y.boat(0, 1, 0, 1, 0, 2);
            holds(y, 0, many("!", times) + "c=2", times % 2 == 0);
            holds(y, 0, many("!", times) + "(c=1)", times % 2 == 1);
            holds(y, 0, many("!(", times) + "c=2" + many(")", times), times % 2 == 0);
        }
    }

    /** '"(" CONDITION ")"', as deep as THE PAGE has room. */
    private static void deepBrackets() {
        CanalCompany x = new CanalCompany();
        x.boat(0, 1, 0, 1, 0, 2);
        holds(x, 0, many("(", 26) + "c=2" + many(")", 26), true);
        holds(x, 0, many("(", 26) + "c=1" + many(")", 26), false);
        holds(x, 0, many("!(", 17) + "c=2" + many(")", 17), false);
        holds(x, 0, many("(", 24) + "c=1" + many(")", 24) + "|c=2", true);
        holds(x, 0, many("(", 24) + "c=2" + many(")", 24) + "&c=1", false);
        holds(x, 0, "c=1|" + many("(", 24) + "c=2" + many(")", 24), true);
        holds(x, 0, "c=1&" + many("(", 24) + "c=2" + many(")", 24), false);
        holds(x, 0, many("(c=1|", 8) + "c=2" + many(")", 8), true);
        holds(x, 0, many("(c=2&", 8) + "c=1" + many(")", 8), false);
    }

    /** "the TEXT told last of those in force, whose CONDITION holds (or is none), speaks" */
    private static void toldLast() {
        CanalCompany x = new CanalCompany();
        x.boat(0, 1, 20, 1, 0, 0);
        Canals.tell(x, "T:1");
        Canals.tell(x, "T:2?l=20");
        Canals.tell(x, "T:3?l=21");
        Canals.tell(x, "T:4");
        x.force(3, 10, 20);
        due("20 ahead of its DAYS", x.speaks(0, 0, 9), 1);
        due("20 the last one", x.speaks(0, 0, 10), 3);
        due("20 the last one", x.speaks(0, 0, 20), 3);
        due("20 behind its DAYS", x.speaks(0, 0, 21), 1);
        x.force(1, 0, 15);
        due("20 the one told first", x.speaks(0, 0, 21), 0);
        x.force(0, 0, 0);
        due("20 none", x.speaks(0, 0, 21), NONE);
        due("21 none", x.quarrel(0, 0, 21), 0);
        due("22 none", x.toll(0, 21), 0);
    }

    /** "QUARREL: others of these whose number is another one" */
    private static void othersOfAnotherNumber() {
        CanalCompany x = new CanalCompany();
        x.boat(0, 1, 20, 1, 0, 0);
        due("21 no TEXTS", x.quarrel(0, 0, 0), 0);
        Canals.tell(x, "T:5");
        due("21 it alone", x.quarrel(0, 0, 0), 0);
        Canals.tell(x, "T:0005?l=20");
        due("21 of the same number", x.quarrel(0, 0, 0), 0);
        Canals.tell(x, "C:6");
        due("21 of another ACT", x.quarrel(0, 0, 0), 0);
        Canals.tell(x, "T:6?l=21");
        due("21 one that does not hold", x.quarrel(0, 0, 0), 0);
        Canals.tell(x, "T:6");
        x.force(4, 1, 99);
        due("21 one that is not in force", x.quarrel(0, 0, 0), 0);
        due("21 two of another number", x.quarrel(0, 0, 1), 2);
        Canals.tell(x, "T:5");
        due("21 one of another number", x.quarrel(0, 0, 1), 1);
    }

    /** "TOLL: what T says (0 without) times LOAD times MILES" */
    private static void tollWithout() {
        CanalCompany x = new CanalCompany();
        x.boat(0, 1, 20, 1, 0, 0);
        due("22 without", x.toll(0, 0), 0);
        Canals.tell(x, "C:9");
        due("22 C does not tell it", x.toll(0, 0), 0);
        Canals.tell(x, "T:9?l<20");
        due("22 one that does not hold", x.toll(0, 0), 0);
    }

    /** The least and the greatest TOLLS. */
    private static void tollAtItsEdges() {
        for (String number : "0 0000 1 9999".split(" ")) {
            CanalCompany x = new CanalCompany();
            x.boat(0, 7, 40, 1, 0, 0);
            x.boat(7, 6, 1, 1, 0, 0);
            x.boat(7, 6, 0, 1, 0, 0);
            Canals.tell(x, "T:" + number);
            int pence = Integer.parseInt(number);
            due("22 greatest", x.toll(0, 99), pence * 1600);
            due("22 least", x.toll(1, 0), pence * 10);
            due("22 without LOAD", x.toll(2, 0), 0);
        }
    }

    /** "an ACT (T toll, C credit)" */
    private static void actsApart() {
        CanalCompany x = new CanalCompany();
        x.boat(0, 1, 20, 1, 0, 0);
        Canals.tell(x, "C:7");
        due("20 C", x.speaks(1, 0, 0), 0);
        due("20 no T", x.speaks(0, 0, 0), NONE);
        Canals.tell(x, "T:7");
        due("20 C", x.speaks(1, 0, 0), 0);
        due("20 T", x.speaks(0, 0, 0), 1);
    }
}
