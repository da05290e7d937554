/**
 * Promises 18 to 24 at their edges, sentence by sentence: each method bears the promise's number, and each check the
 * words of the document that it holds. What is refused stands in RefusalsTest.
 */
public final class EdgesOfStatutesTest {
    private static final int LEAST = Integer.MIN_VALUE;
    private static final int MOST = Integer.MAX_VALUE;

    private static void tell(CollegeHouse house, int which, String text) {
        Checks.write(house, 7, text);
        Checks.due("18: statute " + text, house.statute(which, 7), text.length());
    }

    private static int amend(CollegeHouse house, int which, String a, String b, int from) {
        Checks.write(house, 8, a);
        Checks.write(house, 9, b);
        return house.amend(which, 8, 9, from);
    }

    private static void promise18OnceAndUntilThen() {
        CollegeHouse house = new CollegeHouse();
        for (int which = 0; which < 4; which++) {
            Checks.dueText("18: until then it is: w", Checks.words(house, which, LEAST, LEAST), "w");
        }
        Checks.write(house, 0, "d");
        Checks.due("18: a TEXT of 1 letter", house.statute(0, 0), 1);
        Checks.due("18: it was told", house.statute(0, 0), -6);
        Checks.write(house, 1, "w".repeat(80));
        Checks.due("18: a TEXT of 80 letters", house.statute(3, 1), 80);
        Checks.due("18: it need be no LAW", house.fault(3, 0, 0), 1);
        Checks.dueText("18: all its letters", Checks.words(house, 3, 0, 0), "w".repeat(80));
        Checks.dueText("18: KNOWN at all times", Checks.words(house, 0, LEAST, LEAST), "d");
        Checks.dueText("18: AS OF all times", Checks.words(house, 0, MOST, MOST), "d");
        Checks.dueText("18: of one STATUTE alone", Checks.words(house, 1, 0, 0), "w");
        Checks.write(house, 2, "w");
        Checks.due("18: w may be told, too", house.statute(1, 2), 1);
        Checks.due("18: once", house.statute(1, 2), -6);
        house.row(5, 0, 0);
        Checks.due("18: an empty one", house.statute(2, 5), -6);
        Checks.due("18: what was refused was not told", house.statute(2, 2), 1);
    }

    private static void promise18LettersAsInts() {
        CollegeHouse house = new CollegeHouse();
        Checks.putSort(house, 0, 3, (1L << 32) + 'w', -(1L << 32) + '&', 1L << 31, 'w');
        house.statute(0, 0);
        Checks.due("18: of longs the lowest 32 bits", house.words(0, 0, 0, 0), 'w');
        Checks.due("18: of longs below 0, too", house.words(0, 0, 0, 1), '&');
        Checks.due("18: the 32nd bit is a sign", house.words(0, 0, 0, 2), LEAST);
        Checks.due("18: which can't stand", house.fault(0, 0, 0), 2);
        Checks.putSort(house, 1, 1, 'w' + 256);
        house.statute(1, 1);
        Checks.due("18: a short of more than a byte", house.words(1, 0, 0, 0), 'w' + 256);
        Checks.due("18: is no w", house.fault(1, 0, 0), 0);
        Checks.putSort(house, 2, 0, 'w' + 256);
        house.statute(2, 2);
        Checks.due("18: of bytes the lowest 8", house.fault(2, 0, 0), -1);
        Checks.putSort(house, 3, 2, 'w', 0);
        house.statute(3, 3);
        Checks.due("18: a letter 0 is a letter", house.words(3, 0, 0, -1), 2);
        Checks.due("18: that can't stand", house.fault(3, 0, 0), 1);
    }

    private static void promise19TwelveInAll() {
        CollegeHouse house = new CollegeHouse();
        for (int i = 0; i < 12; i++) {
            Checks.due("19: its number", amend(house, i % 4, "w", "!w", i == 11 ? 40000 : 0), i);
        }
        Checks.due("19: 12 in all at most", amend(house, 0, "w", "!w", 0), -7);
        Checks.dueText("19: the 9th counts", Checks.words(house, 0, 0, 0), "!!!w");
        Checks.dueText("19: from 40,000", Checks.words(house, 3, 40000, 0), "!!!w");
        Checks.dueText("19: not a DAY ahead", Checks.words(house, 3, 39999, 0), "!!w");
        Checks.dueText("19: from 0: not on -1", Checks.words(house, 0, -1, 0), "w");
        Checks.due("19: how many", house.status(2), 12);
    }

    private static void promise19RowsOfAnySort() {
        CollegeHouse house = new CollegeHouse();
        Checks.putSort(house, 0, 3, (5L << 32) + 'w');
        Checks.putSort(house, 1, 3, '!', (7L << 32) + 'w');
        Checks.due("19: TEXTS of longs", house.amend(0, 0, 1, 0), 0);
        Checks.dueText("19: of longs the lowest 32 bits", Checks.words(house, 0, 0, 0), "!w");
        Checks.due("19: a and b in one SHELF", house.amend(1, 0, 0, 0), 1);
        Checks.due("19: isn't GONE", house.gone(1, 0, 0), 0);
        Checks.dueText("19: w by w", Checks.words(house, 1, 0, 0), "w");
        house.set(1, 0, '(');
        Checks.dueText("19: as the ROWS were then", Checks.words(house, 0, 0, 0), "!w");
    }

    private static void promise20FirstPlace() {
        CollegeHouse house = new CollegeHouse();
        tell(house, 0, "wwwdww");
        amend(house, 0, "ww", "r", 1);
        Checks.dueText("20: the first place where words a stand", Checks.words(house, 0, 1, 0), "rwdww");
        amend(house, 0, "ww", "t", 2);
        Checks.dueText("20: at the very end", Checks.words(house, 0, 2, 0), "rwdt");
        amend(house, 0, "rwdt", "w", 3);
        Checks.dueText("20: the whole of it", Checks.words(house, 0, 3, 0), "w");
        amend(house, 0, "w", "dww", 4);
        Checks.dueText("20: once, though b has a", Checks.words(house, 0, 4, 0), "dww");
        amend(house, 0, "wwd", "t", 5);
        Checks.dueText("20: none, as the WORDS end too early for a", Checks.words(house, 0, 5, 0), "dww");
        Checks.due("21: so it is GONE", house.gone(4, 5, 0), 1);
        amend(house, 0, "dwww", "t", 6);
        Checks.due("21: longer than the WORDS: GONE", house.gone(5, 6, 0), 1);
        amend(house, 0, "dw", "wd", 7);
        Checks.dueText("20: at the very beginning, behind one that is GONE", Checks.words(house, 0, 7, 0), "wdw");
        Checks.due("21: not GONE", house.gone(6, 7, 0), 0);
    }

    private static void promise20ByFrom() {
        CollegeHouse house = new CollegeHouse();
        tell(house, 2, "d");
        amend(house, 2, "r", "t", 20);
        amend(house, 2, "d", "r", 10);
        Checks.dueText("20: by from: the later told one first", Checks.words(house, 2, 20, 0), "t");
        amend(house, 2, "t", "a", 20);
        amend(house, 2, "a", "k", 20);
        Checks.dueText("20: of like ones as they were told", Checks.words(house, 2, 20, 0), "k");
        amend(house, 2, "d", "w", 9);
        Checks.dueText("20: the earliest takes what the others want", Checks.words(house, 2, 20, 0), "w");
        for (int m = 0; m < 4; m++) {
            Checks.due("21: so they are GONE", house.gone(m, 20, 0), 1);
        }
        Checks.dueText("20: AS OF 9", Checks.words(house, 2, 9, 0), "w");
        Checks.dueText("20: AS OF 8", Checks.words(house, 2, 8, 0), "d");
        CollegeHouse like = new CollegeHouse();
        amend(like, 2, "w", "d", 5);
        amend(like, 2, "w", "r", 5);
        Checks.dueText("20: of like ones the first told", Checks.words(like, 2, 5, 0), "d");
    }

    private static void promise20KnownOnK() {
        CollegeHouse house = new CollegeHouse();
        house.days(10);
        amend(house, 1, "w", "d", 3);
        Checks.dueText("20: KNOWN on the NOW in which it was told", Checks.words(house, 1, 3, 10), "d");
        Checks.dueText("20: not KNOWN a DAY ahead, though in force", Checks.words(house, 1, 10, 9), "w");
        Checks.dueText("20: KNOWN, not in force yet", Checks.words(house, 1, 2, 10), "w");
        Checks.due("21: from its DAY on", house.gone(0, 3, 10), 0);
        Checks.due("21: not in force", house.gone(0, 2, 10), -1);
        Checks.due("21: not KNOWN then", house.gone(0, 3, 9), -1);
        Checks.due("20: how many letters", house.words(1, 3, 10, -1), 1);
        Checks.due("20: letter 0", house.words(1, 3, 10, 0), 'd');
        Checks.due("20: no letter 1", house.words(1, 3, 10, 1), -1);
    }

    private static void promise21TwoHundredLetters() {
        CollegeHouse house = new CollegeHouse();
        tell(house, 3, "q".repeat(80));
        amend(house, 3, "q", "w".repeat(80), 1);
        amend(house, 3, "q", "w".repeat(41), 2);
        Checks.due("21: 199 letters", house.words(3, 2, 0, -1), 199);
        amend(house, 3, "q", "ddd", 3);
        Checks.due("21: 201 would be more than 200: GONE", house.gone(2, 3, 0), 1);
        Checks.due("21: nothing is changed", house.words(3, 3, 0, -1), 199);
        amend(house, 3, "q", "dd", 4);
        Checks.due("21: 200 are not: not GONE", house.gone(3, 4, 0), 0);
        Checks.due("20: 200 letters", house.words(3, 4, 0, -1), 200);
        amend(house, 3, "w", "r", 5);
        Checks.due("21: 200 stay 200", house.gone(4, 5, 0), 0);
        amend(house, 3, "w", "rr", 6);
        Checks.due("21: not one more", house.gone(5, 6, 0), 1);
        amend(house, 3, "rw", "t", 7);
        amend(house, 3, "q", "aa", 8);
        Checks.due("21: one less", house.words(3, 7, 0, -1), 199);
        Checks.due("21: there is room again", house.gone(7, 8, 0), 0);
        Checks.due("20: the last letter", house.words(3, 8, 0, 199), 'q');
        Checks.due("20: no letter 200", house.words(3, 8, 0, 200), -1);
        amend(house, 3, "z", "y", 9);
        Checks.due("21: where there is none it is GONE", house.gone(8, 9, 0), 1);
        Checks.due("21: GONE again, however later ones go", house.gone(5, 9, 0), 1);
    }

    private static void fault(String text, int want) {
        CollegeHouse house = new CollegeHouse();
        tell(house, 1, text);
        Checks.due("22: FAULT of " + text, house.fault(1, 0, 0), want);
    }

    /** At a place where a part is due: w, a letter of a test, ! and ( can stand, nothing else. */
    private static void promise22WherePartsAreDue() {
        String[] heads = {"", "w&", "w|", "!", "(", "!(", "a<5&", "(w)|", "(w&"};
        for (String head : heads) {
            for (char letter : ")&|<>=0159x W\0".toCharArray()) {
                fault(head + letter, head.length());
            }
            fault(head + "w" + (head.contains("(") && !head.contains(")") ? ")" : ""), -1);
            if (!head.isEmpty()) {
                fault(head, head.length());
            }
        }
    }

    /** Behind a part: & and | can stand, and ) if a ( is open. */
    private static void promise22BehindParts() {
        String[] parts = {"w", "!w", "(w)", "a<0", "k>12", "d=9999", "!(!w)"};
        for (String part : parts) {
            for (char letter : "wakdrt!(<>=x".toCharArray()) {
                fault(part + letter, part.length());
            }
            fault(part, -1);
            fault(part + ")", part.length());
            fault("(" + part + ")", -1);
            fault("(" + part + "))", part.length() + 2);
            fault("(" + part, part.length() + 1);
            fault(part + "&", part.length() + 1);
            fault(part + "|", part.length() + 1);
            fault(part + "&w", -1);
            fault(part + "|w", -1);
        }
    }

    /** Within a test: a sign behind the letter, a digit behind the sign, four digits at most, no 0 ahead of another. */
    private static void promise22WithinTests() {
        for (char letter : "akdrt".toCharArray()) {
            fault("" + letter, 1);
            for (char next : "w0&|)(!a".toCharArray()) {
                fault("" + letter + next, 1);
            }
            for (char sign : "<>=".toCharArray()) {
                fault("" + letter + sign, 2);
                fault("" + letter + sign + sign, 2);
                fault("" + letter + sign + "-1", 2);
                fault("" + letter + sign + "w", 2);
                fault("" + letter + sign + "/", 2);
                fault("" + letter + sign + ":", 2);
                fault("" + letter + sign + "0", -1);
                fault("" + letter + sign + "9999", -1);
            }
        }
        fault("r<00", 3);
        fault("r<09", 3);
        fault("r<10", -1);
        fault("r<1000", -1);
        fault("r<10000", 6);
        fault("r<99990", 6);
        fault("r<0&w", -1);
        fault("r<0w", 3);
        fault("r<12/", 4);
        fault("r<12:", 4);
        fault("w0", 1);
        fault("w<1", 1);
    }

    /** No more than 30 ( and ! within one another; side by side there may be any number. */
    private static void promise22Thirty() {
        fault("(".repeat(30) + "w" + ")".repeat(30), -1);
        fault("(".repeat(31) + "w" + ")".repeat(31), 30);
        fault("!".repeat(30) + "w", -1);
        fault("!".repeat(31) + "w", 30);
        fault("!".repeat(30) + "(w)", 30);
        fault("(".repeat(30) + "!w", 30);
        fault("(".repeat(30), 30);
        fault("!".repeat(30), 30);
        fault("(".repeat(29) + "w" + ")".repeat(29) + "&(!w)|((w))", -1);
        fault("(".repeat(29) + "w|(w)" + "&(w)&!w" + ")".repeat(29), -1);
        fault("(".repeat(29) + "(w)&((w))", 34);
        fault("(w)&".repeat(19) + "(w)", -1);
        fault("!w&".repeat(26) + "w", -1);
        fault("(!w)&".repeat(15) + "!w", -1);
        fault("!".repeat(29) + "(w)&!(" + "!".repeat(28) + "w)", -1);
        fault("!".repeat(29) + "(w)&!(" + "!".repeat(29) + "w)", 29 + 6 + 28);
        CollegeHouse house = new CollegeHouse();
        tell(house, 0, "(w)&".repeat(19) + "(w)q");
        amend(house, 0, "q", "&(w)".repeat(20), 0);
        Checks.due("22: 40 side by side", house.fault(0, 0, 0), -1);
    }

    private static void promise22OfAmendedWords() {
        CollegeHouse house = new CollegeHouse();
        amend(house, 2, "w", "w)", 5);
        amend(house, 2, ")", "&(w", 6);
        amend(house, 2, "(w", "(w)", 7);
        house.days(1);
        Checks.due("22: they are a LAW", house.fault(2, 4, 0), -1);
        Checks.due("22: a letter that can't stand", house.fault(2, 5, 0), 1);
        Checks.due("22: the number of letters, as it ends too early", house.fault(2, 6, 0), 4);
        Checks.due("22: mended", house.fault(2, 7, 0), -1);
        Checks.due("22: KNOWN on -1", house.fault(2, 6, -1), -1);
    }

    /** 0 founder; 1: 1 and 1; 2: 2 and 1; 3: 2 and 2; 4: 99 and 1; 5: 99 and 2; 6: 3 and 2 (KIN and NEAR). */
    private static CollegeHouse kinsfolk() {
        CollegeHouse house = new CollegeHouse();
        for (int who = 0; who < 7; who++) {
            house.person(-9000);
        }
        house.founder(0);
        house.link(1, 0, 0);
        house.link(2, 1, 1);
        house.link(3, 0, 1);
        house.link(3, 1, 1);
        house.link(5, 0, 4);
        house.link(5, 1, 4);
        house.link(6, 0, 2);
        house.link(6, 1, 4);
        return house;
    }

    private static int dueOfKin(char sign, int n, int kin, int near) {
        switch (sign) {
            case '<': return kin < n ? 1 : near < n ? 2 : 0;
            case '>': return kin <= n ? 0 : near <= n ? 2 : 1;
            default:
                if (kin < n) {
                    return 0;
                }
                return kin == n ? (near < n ? 2 : 1) : near <= n ? 2 : 0;
        }
    }

    private static void promise24KinSurelyOrNot() {
        CollegeHouse house = kinsfolk();
        int[] kin = {0, 1, 2, 2, 99, 99, 3};
        int[] near = {0, 1, 1, 2, 1, 2, 2};
        int[] numbers = {0, 1, 2, 3, 4, 98, 99, 100};
        StringBuilder text = new StringBuilder();
        for (char sign : "<>=".toCharArray()) {
            text.setLength(0);
            for (int n : numbers) {
                text.append(text.length() == 0 ? "" : "|").append('k').append(sign).append(n);
            }
            tell(house, "<>=".indexOf(sign), text.toString());
        }
        for (int who = 0; who < 7; who++) {
            Checks.due("9: KIN of " + who, house.kin(who, false, 0), kin[who]);
            Checks.due("9: NEAR of " + who, house.kin(who, true, 0), near[who]);
            for (int i = 0; i < numbers.length; i++) {
                for (int which = 0; which < 3; which++) {
                    char sign = "<>=".charAt(which);
                    Checks.due("24: k" + sign + numbers[i] + " of KIN " + kin[who] + " and NEAR " + near[who],
                        house.test(who, which, 0, 0, i), dueOfKin(sign, numbers[i], kin[who], near[who]));
                }
            }
        }
    }

    private static CollegeHouse one(String text) {
        CollegeHouse house = new CollegeHouse();
        house.person(-3650);
        house.fact(0, 0, 5, -10);
        house.fact(0, 1, 1, -10);
        house.fact(0, 2, 9999, -10);
        house.fact(0, 3, 1, -10);
        tell(house, 0, text);
        return house;
    }

    private static void may(String text, int want) {
        Checks.due("23: " + text, one(text).may(0, 0, 0, 0), want);
    }

    /** so: w; not so: d=0; open: k=1. */
    private static void promise23NotAndOr() {
        String[] part = {"d=0", "w", "k=1"};
        int[] not = {1, 0, 2};
        int[][] and = {{0, 0, 0}, {0, 1, 2}, {0, 2, 2}};
        int[][] or = {{0, 1, 2}, {1, 1, 1}, {2, 1, 2}};
        for (int x = 0; x < 3; x++) {
            may(part[x], x);
            may("!" + part[x], not[x]);
            may("!!" + part[x], x);
            may("(" + part[x] + ")", x);
            may("!(" + part[x] + ")", not[x]);
            for (int y = 0; y < 3; y++) {
                may(part[x] + "&" + part[y], and[x][y]);
                may(part[x] + "|" + part[y], or[x][y]);
                may("!" + part[x] + "&" + part[y], and[not[x]][y]);
                may("!" + part[x] + "|" + part[y], or[not[x]][y]);
                may("!(" + part[x] + "|" + part[y] + ")", not[or[x][y]]);
                may("!(" + part[x] + "&" + part[y] + ")", not[and[x][y]]);
                for (int z = 0; z < 3; z++) {
                    may(part[x] + "&" + part[y] + "|" + part[z], or[and[x][y]][z]);
                    may(part[x] + "|" + part[y] + "&" + part[z], or[x][and[y][z]]);
                    may("(" + part[x] + "|" + part[y] + ")&" + part[z], and[or[x][y]][z]);
                    may(part[x] + "&(" + part[y] + "|" + part[z] + ")", and[x][or[y][z]]);
                    may(part[x] + "|" + part[y] + "|" + part[z], or[or[x][y]][z]);
                    may(part[x] + "&" + part[y] + "&" + part[z], and[and[x][y]][z]);
                }
            }
        }
    }

    private static void promise23EachTest() {
        String[] edges = {"d<5", "d<6", "d>5", "d>4", "d=5", "d=4", "d=6", "r<9999", "r>9999", "r=9999", "r>9998",
            "t<1", "t<2", "t>0", "t>1", "t=1", "t=0", "a<10", "a<11", "a>10", "a>9", "a=10", "a=9", "a=11", "w", "d=05"};
        int[] due = {0, 1, 0, 1, 1, 0, 0, 0, 0, 1, 1, 0, 1, 1, 0, 1, 0, 0, 1, 0, 1, 1, 0, 0, 1, 3};
        for (int i = 0; i < edges.length; i++) {
            may(edges[i], due[i]);
        }
        CollegeHouse house = one("w");
        house.fact(0, 1, 9999, 0);
        Checks.due("23: wed is above 0: 9,999", house.may(0, 0, 0, 0), 1);
        house.fact(0, 1, 0, 1);
        Checks.due("23: wed is 0", house.may(0, 0, 1, 0), 0);
        Checks.due("23: nothing told of wed: 0", house.may(0, 0, -11, 0), 0);
    }

    private static void promise23YearsSinceBorn() {
        CollegeHouse house = new CollegeHouse();
        house.person(1000);
        tell(house, 0, "a=0|a=1|a>9999|a<0");
        int[] days = {LEAST, -40000, 999, 1000, 1364, 1365, 1729, 1730, MOST};
        int[][] due = {{1, 0, 0}, {1, 0, 0}, {1, 0, 0}, {1, 0, 0}, {1, 0, 0}, {0, 1, 0}, {0, 1, 0}, {0, 0, 0}, {0, 0, 1}};
        for (int d = 0; d < days.length; d++) {
            for (int i = 0; i < 3; i++) {
                Checks.due("24: YEARS since BORN, cut, 0 at least, AS OF " + days[d] + ": TEST " + i,
                    house.test(0, 0, days[d], 0, i), due[d][i]);
            }
            Checks.due("24: never below 0", house.test(0, 0, days[d], 0, 3), 0);
        }
    }

    private static void promise23BornAndDeath() {
        CollegeHouse house = new CollegeHouse();
        house.person(100);
        tell(house, 0, "!w");
        tell(house, 1, "k=1");
        tell(house, 2, "!w)");
        Checks.due("23: before BORN", house.may(0, 0, 99, 0), 0);
        Checks.due("23: from BORN on", house.may(0, 0, 100, 0), 1);
        Checks.due("23: OPEN, before BORN", house.may(0, 1, 99, 0), 0);
        Checks.due("23: OPEN", house.may(0, 1, 100, 0), 2);
        house.days(500);
        house.death(0, 300);
        Checks.due("23: ahead of DEATH", house.may(0, 0, 299, 500), 1);
        Checks.due("23: from DEATH on", house.may(0, 0, 300, 500), 0);
        Checks.due("23: for all times", house.may(0, 0, MOST, MOST), 0);
        Checks.due("23: OPEN, from DEATH on", house.may(0, 1, 300, 500), 0);
        Checks.due("23: DEATH as KNOWN", house.may(0, 0, 300, 499), 1);
        Checks.due("23: before BORN, KNOWN or not", house.may(0, 0, 99, LEAST), 0);
        Checks.due("23: its WORDS have a FAULT", house.may(0, 2, 200, 500), 3);
        Checks.due("23: a FAULT, also before BORN", house.may(0, 2, 99, 500), 3);
        Checks.due("23: a FAULT, also from DEATH on", house.may(0, 2, 300, 500), 3);
        house.person(500);
        house.death(1, 500);
        Checks.due("23: BORN and dead on one DAY", house.may(1, 0, 500, 500), 0);
    }

    private static void promise23AsOfAndKnown() {
        CollegeHouse house = new CollegeHouse();
        house.person(-9000);
        house.days(10);
        house.fact(0, 1, 1, 5);
        amend(house, 3, "w", "!w", 7);
        Checks.due("23: nothing KNOWN on 9", house.may(0, 3, 7, 9), 0);
        Checks.due("23: wed AS OF 5", house.may(0, 3, 5, 10), 1);
        Checks.due("23: not AS OF 4", house.may(0, 3, 4, 10), 0);
        Checks.due("23: the AMENDMENT AS OF 7", house.may(0, 3, 7, 10), 0);
        Checks.due("23: not AS OF 6", house.may(0, 3, 6, 10), 1);
    }

    /** KIN and NEAR are those of what was KNOWN on k, whatever the DAY a is. */
    private static void promise23KinAsKnown() {
        CollegeHouse house = new CollegeHouse();
        house.person(-9000);
        house.person(-9000);
        house.founder(1);
        tell(house, 0, "k<2");
        tell(house, 1, "k=1");
        house.days(10);
        house.link(0, 0, 1);
        for (int a = 0; a <= 20; a += 10) {
            Checks.due("23: OPEN, as KNOWN on 9", house.may(0, 0, a, 9), 2);
            Checks.due("23: so, as KNOWN on 10", house.may(0, 0, a, 10), 1);
            Checks.due("24: OPEN, as KNOWN on 9", house.test(0, 1, a, 9, 0), 2);
            Checks.due("24: so, as KNOWN on 10", house.test(0, 1, a, 10, 0), 1);
            Checks.due("23: a FOUNDER is KNOWN at all times", house.may(1, 0, a, LEAST), 1);
        }
    }

    private static void promise24WhichTest() {
        CollegeHouse house = one("!(w|d=0)&k=1|t=2&(w)");
        int[] due = {1, 0, 2, 0, 1};
        for (int i = 0; i < 5; i++) {
            Checks.due("24: TEST " + i + " from the beginning on", house.test(0, 0, 0, 0, i), due[i]);
        }
        Checks.due("24: no TEST 5", house.test(0, 0, 0, 0, 5), -1);
        Checks.due("24: no TEST -1", house.test(0, 0, 0, 0, -1), -1);
        Checks.due("24: the greatest i", house.test(0, 0, 0, 0, MOST), -1);
        Checks.due("24: the least i", house.test(0, 0, 0, 0, LEAST), -1);
        Checks.due("24: TESTS that don't matter any more count, too", one("w|w|d=0|w").test(0, 0, 0, 0, 2), 0);
        Checks.due("24: TESTS within many ( ) count as one each", one("((((!(w)))))|d=0|w").test(0, 0, 0, 0, 1), 0);
        Checks.due("24: a FAULT behind the TEST", one("w&d=5&").test(0, 0, 0, 0, 0), -1);
        CollegeHouse plain = new CollegeHouse();
        plain.person(0);
        Checks.due("24: w, until a TEXT is told", plain.test(0, 3, 0, 0, 0), 0);
        Checks.due("24: one TEST", plain.test(0, 3, 0, 0, 1), -1);
    }

    public static void main(String[] args) {
        promise18OnceAndUntilThen();
        promise18LettersAsInts();
        promise19TwelveInAll();
        promise19RowsOfAnySort();
        promise20FirstPlace();
        promise20ByFrom();
        promise20KnownOnK();
        promise21TwoHundredLetters();
        promise22WherePartsAreDue();
        promise22BehindParts();
        promise22WithinTests();
        promise22Thirty();
        promise22OfAmendedWords();
        promise23NotAndOr();
        promise23EachTest();
        promise23YearsSinceBorn();
        promise23BornAndDeath();
        promise23AsOfAndKnown();
        promise23KinAsKnown();
        promise24KinSurelyOrNot();
        promise24WhichTest();
        Checks.end();
    }
}
