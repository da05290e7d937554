/**
 * Promises 36 to 49 at their edges, sentence by sentence: each method bears the promise's number, and each check the
 * words of the document that it holds. What is refused stands in RefusalsTest.
 */
public final class EdgesOfLandsTest {
    private static CollegeHouse people(int howMany) {
        CollegeHouse house = new CollegeHouse();
        for (int who = 0; who < howMany; who++) {
            house.person(-9000);
            house.fact(who, 1, 1, -100);
        }
        return house;
    }

    private static void toYear(CollegeHouse house, int year) {
        int left = 365 * year - house.status(8);
        while (left > 0) {
            int n = Math.min(left, 4000);
            house.days(n);
            left -= n;
        }
    }

    private static void table(CollegeHouse house, long... rates) {
        Checks.put(house, 8, rates);
        Checks.due("41: its size", house.table(8), rates.length);
    }

    private static void promise36LeastAndMost() {
        CollegeHouse house = people(1);
        Checks.due("36: the least of all", house.lease(1, 0, 0, 0, 1, 0), 0);
        Checks.due("36: the most of all", house.lease(9999, 999, 999, 51, 40, 200), 1);
        Checks.due("39: END YEAR 0", house.ends(0), 0);
        Checks.due("39: END YEAR 200", house.ends(1), 200);
        Checks.due("40: COIN 0", house.rent(0, 0), 0);
        Checks.due("40: VALUE 1, behind it", house.rent(0, 1), 1);
        house.price(199, 51, 999);
        Checks.due("40: COIN 999 and CORN 999 at 999", house.rent(1, 200), 999 + 99800);
        Checks.due("40: no PRICE before", house.rent(1, 198), 999);
        for (int l = 2; l < 8; l++) {
            Checks.due("36: its number", l % 2 == 0 ? house.lease(1, 0, 0, 0, 1, 0) : house.lives(1, 0, 0, 0, 1), l);
        }
        Checks.due("36: 8 at most", house.lease(1, 0, 0, 0, 1, 0), -7);
        Checks.due("37: 8 at most, of both", house.lives(1, 0, 0, 0, 1), -7);
        Checks.due("36: how many", house.status(5), 8);
    }

    private static void promise37OneToThreeLives() {
        CollegeHouse house = people(24);
        Checks.due("37: one, the last", house.lives(1, 0, 0, 0, 1 << 23), 0);
        Checks.due("37: two", house.lives(1, 0, 0, 0, 1 << 23 | 1), 1);
        Checks.due("37: three", house.lives(9999, 999, 999, 51, 0b111 << 21), 2);
        Checks.due("37: four", house.lives(1, 0, 0, 0, 0b1111), -6);
        Checks.due("37: none", house.lives(1, 0, 0, 0, 0), -6);
        Checks.due("37: bit 24", house.lives(1, 0, 0, 0, 1 << 24), -1);
        Checks.due("37: bit 31", house.lives(1, 0, 0, 0, 1 << 31 | 1), -1);
        Checks.due("37: how many", house.status(5), 3);
        Checks.due("37: no PEOPLE, no LIVES", new CollegeHouse().lives(1, 0, 0, 0, 1), -1);
        Checks.due("37: no PEOPLE and no bits", new CollegeHouse().lives(1, 0, 0, 0, 0), -6);
    }

    private static void promise38TwoHundred() {
        CollegeHouse house = new CollegeHouse();
        Checks.due("38: the first YEAR and WEEK, the least n", house.price(0, 0, 0), 1);
        Checks.due("38: the last YEAR and WEEK, the most n", house.price(200, 51, 999), 2);
        Checks.due("38: told already, though n was 0", house.price(0, 0, 5), -6);
        Checks.due("38: told already, the same n", house.price(0, 0, 0), -6);
        Checks.due("38: WEEK 51 of YEAR 0 is not WEEK 0 of YEAR 1", house.price(0, 51, 3), 3);
        Checks.due("38: so it may be told", house.price(1, 0, 4), 4);
        for (int i = 5; i <= 200; i++) {
            Checks.due("38: how many there are", house.price(i, i % 52, 7), i);
        }
        Checks.due("38: 200 at most", house.price(100, 1, 7), -7);
        Checks.due("38: how many", house.status(6), 200);
    }

    private static void promise39LatestDeath() {
        CollegeHouse house = people(4);
        house.lives(50, 1, 0, 0, 0b11);
        house.lives(50, 1, 0, 0, 0b100);
        house.lives(50, 1, 0, 0, 0b1000);
        Checks.due("39: 1,000: not yet told", house.ends(0), 1000);
        toYear(house, 3);
        house.death(0, 729);
        Checks.due("39: DEATH of one of two", house.ends(0), 1000);
        house.death(1, 364);
        Checks.due("39: the YEAR of the latest DEATH, not of the last told: DAY 729 is of YEAR 1", house.ends(0), 1);
        Checks.due("40: the YEAR of the latest DEATH isn't behind its END", house.rent(0, 1), 1);
        Checks.due("40: the YEAR behind it is", house.rent(0, 2), 50);
        house.death(2, 730);
        Checks.due("39: DAY 730 is of YEAR 2", house.ends(1), 2);
        house.death(3, -364);
        Checks.due("39: DAY by 365, cut: YEAR 0", house.ends(2), 0);
        Checks.due("40: so YEAR 0 isn't behind it", house.rent(2, 0), 1);
        house.lives(50, 1, 0, 0, 0b1000);
        Checks.due("39: a LIFE that has ended", house.ends(3), 0);
    }

    private static void promise40Price() {
        CollegeHouse house = new CollegeHouse();
        house.lease(1000, 3, 7, 10, 5, 3);
        Checks.due("40: 0 without a PRICE", house.rent(0, 0), 3);
        house.price(0, 11, 900);
        Checks.due("40: a later WEEK of the YEAR doesn't count", house.rent(0, 0), 3);
        Checks.due("40: but in the next YEAR", house.rent(0, 1), 3 + 630);
        house.price(0, 10, 0);
        Checks.due("40: a PRICE of 0", house.rent(0, 0), 3);
        house.price(1, 10, 18);
        Checks.due("40: by 10, cut: 12.6", house.rent(0, 1), 3 + 12);
        house.price(1, 9, 500);
        Checks.due("40: that WEEK's PRICE, if it has one", house.rent(0, 1), 3 + 12);
        house.price(2, 9, 10);
        house.price(2, 8, 20);
        Checks.due("40: the latest WEEK ahead of it, not the last told", house.rent(0, 2), 3 + 7);
        Checks.due("40: its END YEAR", house.rent(0, 3), 3 + 7);
        Checks.due("40: behind it: VALUE", house.rent(0, 4), 1000);
        Checks.due("40: YEAR 200", house.rent(0, 200), 1000);
        Checks.due("40: YEAR 201", house.rent(0, 201), -1);
        Checks.due("40: YEAR -1", house.rent(0, -1), -1);
        house.price(3, 51, 40);
        house.price(4, 0, 50);
        Checks.due("40: what is behind its END WEEK changes nothing", house.rent(0, 3), 3 + 7);
    }

    private static void promise40FirstAndLastWeek() {
        CollegeHouse house = new CollegeHouse();
        house.lease(1000, 0, 10, 0, 5, 9);
        house.lease(1000, 0, 10, 51, 5, 9);
        house.price(0, 51, 7);
        house.price(1, 0, 8);
        Checks.due("40: WEEK 0 of YEAR 0", house.rent(0, 0), 0);
        Checks.due("40: WEEK 51 of YEAR 0", house.rent(1, 0), 7);
        Checks.due("40: WEEK 0 of YEAR 1", house.rent(0, 1), 8);
        Checks.due("40: WEEK 51 of YEAR 1", house.rent(1, 1), 8);
    }

    private static void promise41Elements() {
        CollegeHouse house = new CollegeHouse();
        for (int l = 0; l < 4; l++) {
            house.lease(100, 0, 0, 0, 1 + l, 0);
        }
        Checks.due("42: no TABLE yet: 0", house.renew(0), 0);
        table(house, 0, 10000);
        Checks.due("41: an element of 10,000, and of 0", house.renew(1), 10000);
        Checks.putSort(house, 1, 3, 1L << 32, (1L << 32) + 200);
        Checks.due("41: elements as ints", house.table(1), 2);
        Checks.due("41: so 200 less 0", house.renew(2), 200);
        Checks.put(house, 2, 0, 10001);
        Checks.due("41: 10,001", house.table(2), -6);
        Checks.put(house, 2, -1, 0);
        Checks.due("41: -1", house.table(2), -6);
        house.set(1, 0, 5);
        Checks.due("42: a refused TABLE leaves the one ahead, as it was then", house.renew(3), 200);
        house.row(3, 0, 80);
        Checks.due("41: 80 elements", house.table(3), 80);
        house.row(3, 2, 0);
        Checks.due("41: empty", house.table(3), 0);
    }

    private static void promise42BeyondTheTable() {
        CollegeHouse house = new CollegeHouse();
        house.lease(50, 0, 0, 0, 40, 0);
        house.lease(50, 0, 0, 0, 2, 0);
        house.lease(50, 0, 0, 0, 1, 1);
        house.lease(50, 0, 0, 0, 1, 200);
        table(house, 10, 30, 90);
        Checks.due("42: T(40) is the last one", house.renew(0), 50 * 80 / 100);
        Checks.due("42: it ends FULL years from that YEAR on", house.ends(0), 40);
        Checks.due("42: T(2) is element 2", house.renew(1), 40);
        Checks.due("42: T(1) less T(1)", house.renew(2), 0);
        Checks.due("42: T(1) less T(200): 0 at least", house.renew(3), 0);
        Checks.due("42: it ends earlier than before then", house.ends(3), 1);
        table(house, 7);
        Checks.due("42: a TABLE of one element", house.renew(1), 0);
        toYear(house, 1);
        table(house, 0, 1);
        Checks.due("42: in its END YEAR: none left; 50 by 100, cut", house.renew(3), 0);
        Checks.due("42: it ends FULL years from then", house.ends(3), 2);
        toYear(house, 3);
        Checks.due("42: it ended ahead of this YEAR", house.renew(3), -6);
        Checks.due("42: nothing changes", house.ends(3), 2);
    }

    private static void promise42CutAndEntries() {
        CollegeHouse house = new CollegeHouse();
        house.lease(33, 0, 0, 0, 1, 0);
        house.lease(9999, 0, 0, 0, 1, 0);
        table(house, 0, 10);
        Checks.due("42: 330 by 100, cut", house.renew(0), 3);
        Checks.due("42: comes to THE CHEST", house.status(9), 3);
        Checks.due("48: HEAD 1", house.head(1, 0), 3);
        table(house, 0, 10000);
        Checks.due("42: the greatest FINE", house.renew(1), 999900);
        Checks.due("59: two ENTRIES", house.status(7), 2);
        for (int i = 2; i < 399; i++) {
            house.other(0);
        }
        Checks.due("42: the 400th ENTRY", house.renew(1), 0);
        Checks.due("42: more than 400 ENTRIES", house.renew(1), -7);
        Checks.due("42: THE CHEST stays", house.audit(999903), 0);
    }

    private static void promise43OnceAYear() {
        CollegeHouse house = people(1);
        house.lease(40, 5, 0, 0, 1, 0);
        house.lives(60, 7, 0, 0, 1);
        Checks.due("43: RENTS: their sum", house.rents(), 12);
        Checks.due("43: they were taken", house.rents(), -6);
        house.days(364);
        Checks.due("43: DAY 364 is of YEAR 0", house.rents(), -6);
        house.days(1);
        Checks.due("43: DAY 365 is of YEAR 1: behind the END of one", house.rents(), 47);
        Checks.due("43: comes to THE CHEST", house.status(9), 59);
        Checks.due("48: HEAD 0 in YEAR 0", house.head(0, 0), 12);
        Checks.due("48: HEAD 0 in YEAR 1", house.head(0, 1), 47);
        toYear(house, 5);
        Checks.due("43: RENTS of the YEARS between are not taken", house.rents(), 47);
        house.lease(9, 1, 0, 0, 1, 9);
        Checks.due("43: once, though there is a LEASE more", house.rents(), -6);
        CollegeHouse none = new CollegeHouse();
        Checks.due("43: no LEASE", none.rents(), 0);
        Checks.due("43: they were taken all the same", none.rents(), -6);
    }

    private static void promise44InThisYear() {
        CollegeHouse house = people(2);
        Checks.due("44: what they were: none at first", house.kept(0, 0), 0);
        Checks.due("44: n 365", house.kept(0, 365), 0);
        Checks.due("44: what they were", house.kept(0, 1), 365);
        Checks.due("44: of another none", house.kept(1, 9), 0);
        house.days(364);
        Checks.due("44: in this YEAR", house.kept(0, 8), 1);
        house.days(1);
        Checks.due("44: in another YEAR none yet", house.kept(0, 3), 0);
        Checks.due("44: nor of another", house.kept(1, 3), 0);
        Checks.due("44: n 366", house.kept(0, 366), -6);
        Checks.due("44: a refused one changes nothing", house.kept(0, 3), 3);
    }

    /** Fellows 0, 1, 2 at places 0, 1, 2 and one who is none. */
    private static CollegeHouse fellows() {
        CollegeHouse house = people(4);
        for (int who = 0; who < 3; who++) {
            house.place(1);
            house.hold(who, who);
        }
        return house;
    }

    private static void promise45AmongHolders() {
        CollegeHouse house = fellows();
        house.place(2);
        house.hold(3, 3);
        house.other(100);
        house.kept(0, 1);
        house.kept(1, 2);
        house.kept(3, 300);
        Checks.due("45: POT times its DAYS by all DAYS of holders of FELLOWS' PLACES, cut", house.dividend(100), 99);
        Checks.due("46: 33.3, cut", house.got(0), 33);
        Checks.due("46: 66.7, cut", house.got(1), 66);
        Checks.due("46: without DAYS", house.got(2), 0);
        Checks.due("46: an officer", house.got(3), 0);
        Checks.due("45: the rest stays", house.status(9), 1);
        Checks.due("48: HEAD 2, below 0: paid", house.head(2, 0), -99);
        Checks.due("45: parted once a YEAR", house.dividend(1), -6);
        house.days(364);
        Checks.due("45: DAY 364 is of YEAR 0", house.dividend(1), -6);
        house.days(1);
        house.kept(2, 365);
        Checks.due("45: in YEAR 1", house.dividend(1), 1);
        Checks.due("46: by all DIVIDENDS", house.got(2), 1);
        Checks.due("46: what it got stays", house.got(0), 33);
    }

    private static void promise45PotAndDays() {
        CollegeHouse house = fellows();
        Checks.due("45: a POT of 0, out of 0, without DAYS", house.dividend(0), 0);
        Checks.due("45: it was parted", house.dividend(0), -6);
        toYear(house, 1);
        house.other(50);
        Checks.due("45: POT above what is in THE CHEST", house.dividend(51), -6);
        Checks.due("45: POT -1", house.dividend(-1), -6);
        house.kept(0, 365);
        Checks.due("45: all that is in THE CHEST", house.dividend(50), 50);
        Checks.due("45: nothing is left", house.status(9), 0);
        toYear(house, 2);
        house.other(10);
        Checks.due("45: no DAYS KEPT in this YEAR: the whole stays", house.dividend(10), 0);
        Checks.due("45: in THE CHEST", house.status(9), 10);
        toYear(house, 3);
        house.kept(0, 10);
        house.kept(1, 10);
        house.leave(1);
        Checks.due("45: who holds none any more gets nothing", house.dividend(10), 10);
        Checks.due("46: the one", house.got(0), 60);
        Checks.due("46: the other", house.got(1), 0);
        toYear(house, 4);
        house.leave(0);
        house.leave(2);
        Checks.due("45: no FELLOWS", house.dividend(0), 0);
        toYear(house, 5);
        house.other(99);
        house.kept(0, 365);
        Checks.due("45: no FELLOWS: the whole stays", house.dividend(99), 0);
    }

    private static void promise45GreatPot() {
        CollegeHouse house = fellows();
        for (int i = 0; i < 60; i++) {
            house.other(99999);
        }
        int all = 60 * 99999;
        house.kept(0, 365);
        house.kept(1, 364);
        house.kept(2, 365);
        int given = (int) (2 * ((long) all * 365 / 1094) + (long) all * 364 / 1094);
        Checks.due("45: a POT that times DAYS is more than an int", house.dividend(all), given);
        Checks.due("46: its part", house.got(0), (long) all * 365 / 1094);
        Checks.due("46: the other part", house.got(1), (long) all * 364 / 1094);
    }

    private static void promise47NotBelow0() {
        CollegeHouse house = new CollegeHouse();
        Checks.due("47: it would be below 0", house.other(-1), -6);
        Checks.due("47: 0", house.other(0), 0);
        Checks.due("47: 99,999", house.other(99999), 99999);
        Checks.due("47: 100,000", house.other(100000), -6);
        Checks.due("47: to 0, by -99,999", house.other(-99999), 0);
        house.other(99999);
        house.other(99999);
        Checks.due("47: -100,000, though there is enough", house.other(-100000), -6);
        Checks.due("47: the greatest int", house.other(Integer.MAX_VALUE), -6);
        Checks.due("47: what is in THE CHEST", house.other(-1), 199997);
        for (int i = 6; i < 400; i++) {
            house.other(0);
        }
        Checks.due("47: 400 ENTRIES", house.status(7), 400);
        Checks.due("47: more than 400 ENTRIES", house.other(1), -7);
        Checks.due("47: THE CHEST stays", house.status(9), 199997);
    }

    private static void promise48EveryHeadAndYear() {
        CollegeHouse house = fellows();
        house.lease(70, 8, 0, 0, 1, 0);
        table(house, 0, 50);
        house.rents();
        house.renew(0);
        house.other(20);
        house.kept(0, 5);
        house.dividend(3);
        long[] year0 = {8, 35, -3, 20};
        toYear(house, 109);
        house.other(11);
        house.rents();
        house.kept(0, 5);
        house.dividend(4);
        long[] year109 = {70, 0, -4, 11};
        for (int head = 0; head < 4; head++) {
            Checks.due("48: HEAD " + head + " in YEAR 0", house.head(head, 0), year0[head]);
            Checks.due("48: HEAD " + head + " in YEAR 109", house.head(head, 109), year109[head]);
            int[] years = {-1, 1, 108, 110, 365, Integer.MIN_VALUE, Integer.MAX_VALUE};
            for (int year : years) {
                Checks.due("48: HEAD " + head + " in YEAR " + year + ": no ENTRIES", house.head(head, year), 0);
            }
        }
        int[] none = {-1, 4, Integer.MIN_VALUE, Integer.MAX_VALUE};
        for (int head : none) {
            Checks.due("48: no HEAD " + head, house.head(head, 0), -1_000_001);
        }
    }

    private static void promise49AsAnInt() {
        CollegeHouse house = new CollegeHouse();
        Checks.due("49: as much as it should be", house.audit(0), 0);
        Checks.due("49: all of it more", house.audit(Integer.MAX_VALUE), Integer.MAX_VALUE);
        house.other(1);
        Checks.due("49: one less", house.audit(0), -1);
        Checks.due("49: one more", house.audit(2), 1);
        Checks.due("49: as an int", house.audit(Integer.MIN_VALUE), Integer.MAX_VALUE);
        Checks.due("49: the greatest", house.audit(Integer.MAX_VALUE), Integer.MAX_VALUE - 1);
        Checks.due("49: counting is no ENTRY", house.status(7), 1);
        Checks.due("49: and changes nothing", house.status(9), 1);
    }

    private static void promise39AheadOfDay0() {
        CollegeHouse house = people(2);
        house.lives(50, 1, 0, 0, 0b01);
        house.lives(60, 2, 0, 0, 0b11);
        house.death(0, -730);
        Checks.due("39: a DEATH two YEARS ahead of DAY 0", house.ends(0), -2);
        Checks.due("40: YEAR 0 is behind it: VALUE", house.rent(0, 0), 50);
        Checks.due("39: of two not yet told", house.ends(1), 1000);
        house.death(1, -9000);
        Checks.due("39: the latest, not the last told", house.ends(1), -2);
        Checks.due("51: RENTS of LIVES that ended ahead of this YEAR", house.plan(2, 0, 0), 220);
        Checks.due("43: VALUE of both", house.rents(), 110);
    }

    private static void promise43LivesThatEnded() {
        CollegeHouse house = people(1);
        house.lives(60, 7, 0, 0, 1);
        toYear(house, 2);
        house.death(0, 730);
        Checks.due("43: RENTS of the YEAR of its END", house.rents(), 7);
        toYear(house, 3);
        Checks.due("43: RENTS behind it: VALUE", house.rents(), 60);
        Checks.due("43: comes to THE CHEST", house.status(9), 67);
    }

    private static void promise45NoOtherKind() {
        for (int kind = 0; kind < 4; kind++) {
            CollegeHouse house = fellows();
            house.place(kind);
            house.hold(3, 3);
            house.other(80);
            house.kept(0, 100);
            house.kept(3, 300);
            boolean isFellow = kind == 1;
            Checks.due("45: all of the POT", house.dividend(80), 80);
            Checks.due("46: a FELLOW beside a holder of KIND " + kind, house.got(0), isFellow ? 20 : 80);
            Checks.due("46: the holder of KIND " + kind, house.got(3), isFellow ? 60 : 0);
        }
    }

    private static void promise39LastDay() {
        CollegeHouse house = people(1);
        house.lives(50, 1, 0, 0, 1);
        toYear(house, 109);
        house.days(40000 - 109 * 365);
        Checks.due("7: DEATH on the last DAY", house.death(0, 40000), 1);
        Checks.due("39: the YEAR of DAY 40,000", house.ends(0), 109);
        Checks.due("40: RENT of it", house.rent(0, 109), 1);
        Checks.due("40: behind it", house.rent(0, 110), 50);
    }

    public static void main(String[] args) {
        promise36LeastAndMost();
        promise37OneToThreeLives();
        promise38TwoHundred();
        promise39LatestDeath();
        promise39AheadOfDay0();
        promise39LastDay();
        promise40Price();
        promise40FirstAndLastWeek();
        promise41Elements();
        promise42BeyondTheTable();
        promise42CutAndEntries();
        promise43OnceAYear();
        promise43LivesThatEnded();
        promise44InThisYear();
        promise45AmongHolders();
        promise45NoOtherKind();
        promise45PotAndDays();
        promise45GreatPot();
        promise47NotBelow0();
        promise48EveryHeadAndYear();
        promise49AsAnInt();
        Checks.end();
    }
}
