/** Promises 18 to 24: statutes, amendments, faults, and who may. */
public final class StatutesTest {
    private static CollegeHouse withStatute(int which, String text) {
        CollegeHouse house = new CollegeHouse();
        Checks.write(house, 0, text);
        Checks.due("statute " + text, house.statute(which, 0), text.length());
        return house;
    }

    private static void promise18Statute() {
        CollegeHouse house = new CollegeHouse();
        house.person(0);
        house.show(1, 0);
        Checks.write(house, 2, "d>1");
        house.row(3, 0, 0);
        Checks.due("18: no statute", house.statute(4, 2), -1);
        Checks.due("18: no statute below", house.statute(-1, 1), -1);
        Checks.due("18: no shelf", house.statute(0, 10), -1);
        Checks.due("18: one of people", house.statute(0, 1), -2);
        Checks.due("18: nothing", house.statute(0, 0), -3);
        Checks.due("18: empty", house.statute(0, 3), -6);
        Checks.dueText("18: until then", Checks.words(house, 0, 0, 0), "w");
        house.days(9);
        Checks.due("18: letters", house.statute(0, 2), 3);
        Checks.dueText("18: known at all times", Checks.words(house, 0, -9, -9), "d>1");
        Checks.due("18: told", house.statute(0, 2), -6);
        house.set(2, 0, 'r');
        Checks.dueText("18: as it was then", Checks.words(house, 0, 9, 9), "d>1");
        Checks.dueText("18: another", Checks.words(house, 3, 9, 9), "w");
        Checks.write(house, 2, ")(");
        Checks.due("18: no law", house.statute(3, 2), 2);
        Checks.putSort(house, 2, 3, (7L << 32) + 'w', -1L);
        Checks.due("18: of longs", house.statute(1, 2), 2);
        Checks.due("18: their lowest bits", house.words(1, 0, 0, 0), 'w');
        Checks.due("18: a letter below 0", house.words(1, 0, 0, 1), -1);
        Checks.due("18: which can't stand", house.fault(1, 0, 0), 1);
    }

    private static void promise19Amend() {
        CollegeHouse house = new CollegeHouse();
        house.person(0);
        house.show(1, 0);
        Checks.write(house, 2, "w");
        Checks.put(house, 3, '!', 'w');
        house.row(4, 0, 0);
        Checks.due("19: no statute", house.amend(4, 2, 3, 0), -1);
        Checks.due("19: no shelf s", house.amend(0, 10, 1, 0), -1);
        Checks.due("19: no shelf t", house.amend(0, 1, -1, 0), -1);
        Checks.due("19: one of people", house.amend(0, 1, 0, 0), -2);
        Checks.due("19: one of people too", house.amend(0, 0, 1, 0), -2);
        Checks.due("19: nothing", house.amend(0, 0, 2, -1), -3);
        Checks.due("19: nothing too", house.amend(0, 2, 0, -1), -3);
        Checks.due("19: too early", house.amend(0, 2, 3, -1), -6);
        Checks.due("19: too late", house.amend(0, 2, 3, 40001), -6);
        Checks.due("19: empty a", house.amend(0, 4, 3, 0), -6);
        Checks.due("19: empty b", house.amend(0, 2, 4, 0), -6);
        Checks.due("19: rows of two sorts", house.amend(0, 2, 3, 0), 0);
        Checks.dueText("19: done", Checks.words(house, 0, 0, 0), "!w");
        Checks.due("19: the latest day", house.amend(1, 2, 3, 40000), 1);
        for (int i = 2; i < 12; i++) {
            Checks.due("19: more", house.amend(3, 2, 3, 5), i);
        }
        Checks.due("19: wrong ahead of too many", house.amend(3, 2, 3, -1), -6);
        Checks.due("19: too many", house.amend(3, 2, 3, 5), -7);
        Checks.due("19: how many", house.status(2), 12);
    }

    private static int amend(CollegeHouse house, int which, String a, String b, int from) {
        Checks.write(house, 8, a);
        Checks.write(house, 9, b);
        return house.amend(which, 8, 9, from);
    }

    private static void promise20Words() {
        CollegeHouse house = withStatute(1, "d>1&d>2");
        Checks.due("20: amended", amend(house, 1, "d>", "r<", 20), 0);
        Checks.due("20: amended earlier", amend(house, 1, "d>1", "t=5", 10), 1);
        Checks.due("20: of like days", amend(house, 1, "5", "6|w", 10), 2);
        Checks.due("20: another statute", amend(house, 2, "w", "!w", 10), 3);
        Checks.dueText("20: ahead of all", Checks.words(house, 1, 9, 0), "d>1&d>2");
        Checks.dueText("20: as they were told", Checks.words(house, 1, 10, 0), "t=6|w&d>2");
        Checks.dueText("20: by from", Checks.words(house, 1, 20, 0), "t=6|w&r<2");
        Checks.dueText("20: known ahead of all", Checks.words(house, 1, 20, -1), "d>1&d>2");
        Checks.dueText("20: the other", Checks.words(house, 2, 20, 0), "!w");
        house.days(7);
        amend(house, 1, "w", "k<3", 5);
        Checks.dueText("20: not known yet", Checks.words(house, 1, 20, 6), "t=6|w&r<2");
        Checks.due("20: known, and gone as it comes first", house.gone(4, 20, 7), 1);
        amend(house, 1, "t=6|w", "(t=6)", 12);
        Checks.dueText("20: only now", Checks.words(house, 1, 20, 7), "(t=6)&r<2");
        Checks.dueText("20: not known ahead", Checks.words(house, 1, 20, 6), "t=6|w&r<2");
        Checks.due("20: how many", house.words(1, 20, 7, -1), 9);
        Checks.due("20: the last", house.words(1, 20, 7, 8), '2');
        Checks.due("20: no letter", house.words(1, 20, 7, 9), -1);
        Checks.due("20: no letter below", house.words(1, 20, 7, -2), -1);
        Checks.due("20: no statute", house.words(4, 0, 0, -1), -1);
        Checks.due("20: no statute below", house.words(-1, 0, 0, -1), -1);
    }

    private static void promise21Gone() {
        CollegeHouse house = withStatute(0, "w".repeat(80));
        Checks.due("21: no such one", house.gone(0, 0, 0), -1);
        amend(house, 0, "w", "d".repeat(61), 10);
        amend(house, 0, "w", "r".repeat(61), 11);
        amend(house, 0, "rww", "t", 12);
        amend(house, 0, "w", "a".repeat(4), 13);
        amend(house, 0, "w", "a".repeat(3), 14);
        amend(house, 0, "q", "a", 15);
        Checks.due("21: 140 letters", house.words(0, 10, 0, -1), 140);
        Checks.due("21: not gone", house.gone(0, 10, 0), 0);
        Checks.due("21: 200 letters", house.words(0, 11, 0, -1), 200);
        Checks.due("21: room for 200", house.gone(1, 11, 0), 0);
        Checks.due("21: 198", house.words(0, 12, 0, -1), 198);
        Checks.due("21: 201 would be too many", house.words(0, 13, 0, -1), 198);
        Checks.due("21: so it is gone", house.gone(3, 13, 0), 1);
        Checks.due("21: 200 again", house.words(0, 14, 0, -1), 200);
        Checks.due("21: a later one isn't", house.gone(4, 14, 0), 0);
        Checks.due("21: no such place", house.gone(5, 15, 0), 1);
        Checks.due("21: not in force", house.gone(5, 14, 0), -1);
        Checks.due("21: not known", house.gone(5, 15, -1), -1);
        Checks.due("21: no such one above", house.gone(6, 15, 0), -1);
        Checks.due("21: no such one below", house.gone(-1, 15, 0), -1);
        CollegeHouse other = new CollegeHouse();
        amend(other, 2, "w", "d>1", 0);
        amend(other, 1, "d", "r", 0);
        Checks.due("21: of its statute alone", other.gone(1, 0, 0), 1);
        Checks.due("21: the other one", other.gone(0, 0, 0), 0);
        other.days(7);
        amend(other, 0, "w", "!w", 5);
        other.days(1);
        amend(other, 0, "w", "r>1", 3);
        amend(other, 0, "w", "t>1", 4);
        Checks.due("21: another was done ahead of it", other.gone(2, 5, 8), 1);
        Checks.due("21: which wasn't known then", other.gone(2, 5, 7), 0);
        Checks.due("21: one of two", other.gone(3, 5, 8), 0);
        Checks.due("21: and the other", other.gone(4, 5, 8), 1);
    }

    private static void fault(String text, int want) {
        Checks.due("22: " + text, withStatute(2, text).fault(2, 0, 0), want);
    }

    private static void promise22Fault() {
        CollegeHouse house = new CollegeHouse();
        Checks.due("22: w", house.fault(0, 0, 0), -1);
        Checks.due("22: no statute", house.fault(4, 0, 0), -1);
        Checks.due("22: no statute below", house.fault(-1, 0, 0), -1);
        String[] laws = {"w", "!w", "!!w", "(w)", "((w))", "w&w|w&!w", "!(w|w)&w", "a>0", "k<9999", "d=10", "r<1", "t>7",
            "a=0|a=0", "!(!(k>1))"};
        for (String law : laws) {
            fault(law, -1);
        }
        fault("x", 0);
        fault(")", 0);
        fault("&w", 0);
        fault("(", 1);
        fault("!", 1);
        fault("w&", 2);
        fault("w|", 2);
        fault("ww", 1);
        fault("w)", 1);
        fault("w!w", 1);
        fault("w(w)", 1);
        fault("()", 1);
        fault("(w", 2);
        fault("(w))", 3);
        fault("(w&)", 3);
        fault("w=1", 1);
        fault("a", 1);
        fault("a1", 1);
        fault("a<", 2);
        fault("a<>", 2);
        fault("a<-1", 2);
        fault("a<w", 2);
        fault("a<00", 3);
        fault("a<01", 3);
        fault("a<10000", 6);
        fault("a<1a", 3);
        fault("a<1&", 4);
        fault("A<1", 0);
        fault("w w", 1);
        fault("(".repeat(30) + "w" + ")".repeat(30), -1);
        fault("(".repeat(31) + "w" + ")".repeat(31), 30);
        fault("!".repeat(30) + "w", -1);
        fault("!".repeat(31) + "w", 30);
        fault("!(".repeat(15) + "w" + ")".repeat(15), -1);
        fault("!(".repeat(15) + "!w" + ")".repeat(15), 30);
        fault("!!!w&".repeat(12) + "w", -1);
        fault("!".repeat(29) + "w&" + "!".repeat(30) + "w", -1);
        fault("(".repeat(29) + "w|!w" + ")".repeat(29), -1);
        fault("(".repeat(29) + "w|!!w" + ")".repeat(29), 32);
        fault("(".repeat(30) + "w", 31);
    }

    /** What is left of one text when it has been read does nothing to the next. */
    private static void promise22Again() {
        CollegeHouse house = withStatute(0, "(!(!(w");
        Checks.write(house, 0, "!".repeat(30) + "w");
        house.statute(1, 0);
        Checks.write(house, 0, "w)");
        house.statute(2, 0);
        Checks.write(house, 0, "w&(w)");
        house.statute(3, 0);
        house.person(0);
        house.fact(0, 1, 1, 0);
        for (int i = 0; i < 40; i++) {
            Checks.due("22: too early", house.fault(0, 0, 0), 6);
            Checks.due("23: so", house.may(0, 3, 0, 0), 1);
            Checks.due("22: deep", house.fault(1, 0, 0), -1);
            Checks.due("22: open no more", house.fault(2, 0, 0), 1);
            Checks.due("23: fault", house.may(0, 0, 0, 0), 3);
            Checks.due("23: so", house.may(0, 3, 0, 0), 1);
        }
    }

    private static CollegeHouse oldFellow(String text) {
        CollegeHouse house = withStatute(0, text);
        house.person(-3650);
        house.fact(0, 0, 7, -50);
        house.fact(0, 1, 1, -50);
        house.fact(0, 2, 300, -50);
        house.fact(0, 3, 12, -50);
        return house;
    }

    private static void may(String text, int want) {
        Checks.due("23: " + text, oldFellow(text).may(0, 0, 0, 0), want);
    }

    private static void promise23May() {
        may("w", 1);
        may("!w", 0);
        may("!!w", 1);
        may("!!!w", 0);
        may("!!!!w", 1);
        may("(w|w)&(!w)", 0);
        may("(!w&w)|(w)", 1);
        may("!(w)&(w)", 0);
        may("a>9", 1);
        may("a=10", 1);
        may("a<10", 0);
        may("a>10", 0);
        may("a<11", 1);
        may("d=7", 1);
        may("d>6&d<8", 1);
        may("d>7|d<7", 0);
        may("r=300", 1);
        may("r>300", 0);
        may("t=12", 1);
        may("t<12", 0);
        may("w|!w&!w", 1);
        may("!w&w|w", 1);
        may("!w&(w|w)", 0);
        may("!(w&w)|d=7", 1);
        may("!(!w|d=7)", 0);
        may("w&", 3);
        // nothing is known of kin: KIN is 99, NEAR 1
        may("k<1", 0);
        may("k<2", 2);
        may("k<99", 2);
        may("k<100", 1);
        may("k>0", 1);
        may("k>1", 2);
        may("k>98", 2);
        may("k>99", 0);
        may("k=0", 0);
        may("k=1", 2);
        may("k=98", 2);
        may("k=99", 2);
        may("k=100", 0);
        may("!k<2", 2);
        may("k<2&!w", 0);
        may("!w&k<2", 0);
        may("k<2&w", 2);
        may("k<2|w", 1);
        may("k<2|!w", 2);
        may("!(k<2|!w)&w", 2);
        may("k<2&k<2", 2);
        may("k<2|k<2", 2);
        CollegeHouse house = oldFellow("w");
        Checks.due("23: nobody", house.may(1, 0, 0, 0), -1);
        Checks.due("23: nobody below", house.may(-1, 0, 0, 0), -1);
        Checks.due("23: no statute", house.may(0, 4, 0, 0), -1);
        Checks.due("23: no statute below", house.may(0, -1, 0, 0), -1);
        Checks.due("23: not wed yet", house.may(0, 0, -51, 0), 0);
        Checks.due("23: from that day", house.may(0, 0, -50, 0), 1);
        Checks.due("23: known before", house.may(0, 0, 0, -1), 0);
    }

    private static void promise23KinIsN() {
        CollegeHouse house = withStatute(3, "k=2");
        for (int who = 0; who < 4; who++) {
            house.person(0);
        }
        house.founder(0);
        house.link(1, 0, 0);
        house.link(2, 0, 1);
        Checks.due("23: kin is n, near below", house.may(2, 3, 0, 0), 2);
        Checks.due("23: kin below n", house.may(1, 3, 0, 0), 0);
        house.link(2, 1, 3);
        Checks.due("23: kin is n, near too", house.kin(2, true, 0), 2);
        Checks.due("23: so it is so", house.may(2, 3, 0, 0), 1);
        Checks.due("23: kin above n, near below", house.may(3, 3, 0, 0), 2);
    }

    private static void promise23Life() {
        CollegeHouse house = withStatute(1, "!w");
        house.person(100);
        Checks.due("23: before born", house.may(0, 1, 99, 0), 0);
        Checks.due("23: the day", house.may(0, 1, 100, 0), 1);
        house.days(300);
        house.death(0, 200);
        Checks.due("23: ahead of death", house.may(0, 1, 199, 300), 1);
        Checks.due("23: from death on", house.may(0, 1, 200, 300), 0);
        Checks.due("23: as known", house.may(0, 1, 200, 299), 1);
        Checks.write(house, 0, "a=0");
        house.statute(2, 0);
        Checks.due("23: years are 0 at least", house.test(0, 2, -9000, 0, 0), 1);
        Checks.due("23: 364 days", house.test(0, 2, 464, 0, 0), 1);
        Checks.due("23: 365 days", house.test(0, 2, 465, 0, 0), 0);
        Checks.due("23: at the end of ints", house.test(0, 2, Integer.MAX_VALUE, 0, 0), 0);
        Checks.due("23: at their beginning", house.test(0, 2, Integer.MIN_VALUE, 0, 0), 1);
    }

    private static void promise24Test() {
        CollegeHouse house = oldFellow("w&!(d=7|k<3)|!w");
        int[] values = {1, 1, 2, 1};
        for (int i = 0; i < 4; i++) {
            Checks.due("24: test " + i, house.test(0, 0, 0, 0, i), values[i]);
        }
        Checks.due("24: not so", house.test(0, 0, -60, 0, 1), 0);
        Checks.due("24: no such test", house.test(0, 0, 0, 0, 4), -1);
        Checks.due("24: no such test below", house.test(0, 0, 0, 0, -1), -1);
        Checks.due("24: nobody", house.test(1, 0, 0, 0, 0), -1);
        Checks.due("24: no statute", house.test(0, 4, 0, 0, 0), -1);
        Checks.due("24: no statute below", house.test(0, -1, 0, 0, 0), -1);
        Checks.due("24: a fault", oldFellow("w&w&").test(0, 0, 0, 0, 0), -1);
    }

    public static void main(String[] args) {
        promise18Statute();
        promise19Amend();
        promise20Words();
        promise21Gone();
        promise22Fault();
        promise22Again();
        promise23May();
        promise23KinIsN();
        promise23Life();
        promise24Test();
        Checks.end();
    }
}
