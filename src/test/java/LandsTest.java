/** Promises 36 to 49: leases, prices, fines, rents, dividends and the chest. */
public final class LandsTest {
    private static void promise36Lease() {
        CollegeHouse house = new CollegeHouse();
        int[] least = {1, 0, 0, 0, 1, 0};
        int[] most = {9999, 999, 999, 51, 40, 200};
        for (int i = 0; i < 6; i++) {
            int[] low = least.clone();
            int[] high = most.clone();
            low[i]--;
            high[i]++;
            Checks.due("36: below " + i, lease(house, low), -6);
            Checks.due("36: above " + i, lease(house, high), -6);
        }
        Checks.due("36: the least", lease(house, least), 0);
        Checks.due("36: the most", lease(house, most), 1);
        Checks.due("36: end", house.ends(0), 0);
        Checks.due("36: end", house.ends(1), 200);
        for (int i = 2; i < 8; i++) {
            Checks.due("36: more", house.lease(5, 1, 1, 1, 1, 1), i);
        }
        Checks.due("36: wrong ahead of too many", house.lease(0, 1, 1, 1, 1, 1), -6);
        Checks.due("36: too many", house.lease(5, 1, 1, 1, 1, 1), -7);
        house.person(0);
        Checks.due("36: for lives too", house.lives(5, 1, 1, 1, 1), -7);
        Checks.due("36: how many", house.status(5), 8);
    }

    private static int lease(CollegeHouse house, int[] of) {
        return house.lease(of[0], of[1], of[2], of[3], of[4], of[5]);
    }

    private static void promise37Lives() {
        CollegeHouse house = new CollegeHouse();
        for (int who = 0; who < 4; who++) {
            house.person(-500);
        }
        Checks.due("37: a bit of none", house.lives(0, 0, 0, 0, 16), -1);
        Checks.due("37: the highest bit", house.lives(5, 0, 0, 0, Integer.MIN_VALUE), -1);
        Checks.due("37: no lives", house.lives(5, 0, 0, 0, 0), -6);
        Checks.due("37: four lives", house.lives(5, 0, 0, 0, 15), -6);
        Checks.due("37: value", house.lives(0, 0, 0, 0, 1), -6);
        Checks.due("37: value above", house.lives(10000, 0, 0, 0, 1), -6);
        Checks.due("37: coin", house.lives(5, 1000, 0, 0, 1), -6);
        Checks.due("37: coin below", house.lives(5, -1, 0, 0, 1), -6);
        Checks.due("37: corn", house.lives(5, 0, 1000, 0, 1), -6);
        Checks.due("37: corn below", house.lives(5, 0, -1, 0, 1), -6);
        Checks.due("37: week", house.lives(5, 0, 0, 52, 1), -6);
        Checks.due("37: week below", house.lives(5, 0, 0, -1, 1), -6);
        Checks.due("37: one", house.lives(1, 999, 999, 51, 8), 0);
        Checks.due("37: three", house.lives(9999, 0, 0, 0, 7), 1);
    }

    private static void promise38Price() {
        CollegeHouse house = new CollegeHouse();
        Checks.due("38: year", house.price(201, 0, 0), -6);
        Checks.due("38: year below", house.price(-1, 0, 0), -6);
        Checks.due("38: week", house.price(0, 52, 0), -6);
        Checks.due("38: week below", house.price(0, -1, 0), -6);
        Checks.due("38: n", house.price(0, 0, 1000), -6);
        Checks.due("38: n below", house.price(0, 0, -1), -6);
        Checks.due("38: the last", house.price(200, 51, 999), 1);
        Checks.due("38: told", house.price(200, 51, 998), -6);
        for (int i = 0; i < 199; i++) {
            Checks.due("38: more", house.price(i, i % 52, 0), i + 2);
        }
        Checks.due("38: told ahead of too many", house.price(0, 0, 5), -6);
        Checks.due("38: too many", house.price(0, 1, 5), -7);
        Checks.due("38: how many", house.status(6), 200);
    }

    private static void promise39Ends() {
        CollegeHouse house = new CollegeHouse();
        house.person(-40000);
        house.person(-40000);
        house.person(0);
        house.lease(5, 1, 1, 1, 1, 77);
        house.lives(5, 1, 1, 1, 3);
        house.lives(5, 1, 1, 1, 4);
        Checks.due("39: of years", house.ends(0), 77);
        Checks.due("39: not yet told", house.ends(1), 1000);
        house.death(0, -3000);
        Checks.due("39: one lives", house.ends(1), 1000);
        house.days(800);
        house.death(1, 729);
        Checks.due("39: the latest death", house.ends(1), 1);
        house.death(2, 730);
        Checks.due("39: a year on", house.ends(2), 2);
        Checks.due("39: no lease", house.ends(3), -1);
        Checks.due("39: no lease below", house.ends(-1), -1);
    }

    private static void promise40Rent() {
        CollegeHouse house = new CollegeHouse();
        house.person(0);
        house.lease(500, 7, 13, 10, 5, 4);
        house.lives(600, 1, 10, 10, 1);
        Checks.due("40: no price", house.rent(0, 0), 7);
        house.price(1, 10, 15);
        house.price(1, 11, 99);
        house.price(3, 9, 20);
        Checks.due("40: none yet", house.rent(0, 0), 7);
        Checks.due("40: of its week, cut", house.rent(0, 1), 7 + 19);
        Checks.due("40: of the latest week ahead of it", house.rent(0, 2), 7 + 128);
        Checks.due("40: of a week ahead in its year", house.rent(0, 3), 7 + 26);
        Checks.due("40: its last year", house.rent(0, 4), 7 + 26);
        Checks.due("40: behind its end", house.rent(0, 5), 500);
        Checks.due("40: the last year of all", house.rent(0, 200), 500);
        Checks.due("40: no year", house.rent(0, 201), -1);
        Checks.due("40: no year below", house.rent(0, -1), -1);
        Checks.due("40: no lease", house.rent(2, 0), -1);
        Checks.due("40: no lease below", house.rent(-1, 0), -1);
        Checks.due("40: for lives", house.rent(1, 200), 21);
        house.days(400);
        house.death(0, 390);
        Checks.due("40: the year of death", house.rent(1, 1), 16);
        Checks.due("40: behind it", house.rent(1, 2), 600);
        Checks.due("40: nothing is refused", house.status(11) + house.status(16), 0);
    }

    private static void promise41Table() {
        CollegeHouse house = new CollegeHouse();
        house.person(0);
        house.show(1, 0);
        Checks.put(house, 0, 0, 10000);
        Checks.due("41: no shelf", house.table(10), -1);
        Checks.due("41: one of people", house.table(1), -2);
        Checks.due("41: nothing", house.table(2), -3);
        Checks.due("41: edges", house.table(0), 2);
        house.lease(100, 0, 0, 0, 1, 0);
        house.lease(100, 0, 0, 0, 1, 0);
        Checks.put(house, 2, 0, 10001);
        Checks.due("41: above", house.table(2), -6);
        Checks.put(house, 2, 0, -1);
        Checks.due("41: below", house.table(2), -6);
        Checks.put(house, 2, 10001, 0);
        Checks.due("41: the first", house.table(2), -6);
        house.set(0, 1, 5);
        Checks.due("41: as it was then", house.renew(0), 10000);
        house.row(0, 3, 0);
        Checks.due("41: an empty one", house.table(0), 0);
        Checks.due("41: is 0 all over", house.renew(1), 0);
    }

    private static void promise42Renew() {
        CollegeHouse house = new CollegeHouse();
        house.person(0);
        Checks.due("42: no lease", house.renew(0), -1);
        house.lease(99, 1, 1, 1, 3, 2);
        house.lives(99, 1, 1, 1, 1);
        house.lease(77, 1, 1, 1, 9, 0);
        Checks.due("42: no lease below", house.renew(-1), -1);
        Checks.due("42: for lives", house.renew(1), -6);
        Checks.put(house, 0, 10, 25, 60, 133);
        house.table(0);
        house.days(365);
        Checks.due("42: it ended", house.renew(2), -6);
        // T(3) is 133, T(1) is 25: 99 times 108 by 100
        Checks.due("42: fine, cut", house.renew(0), 106);
        Checks.due("42: its new end", house.ends(0), 4);
        Checks.due("42: in the chest", house.status(9), 106);
        Checks.due("42: its head", house.head(1, 1), 106);
        Checks.due("42: beyond the table, and none left to pay", house.renew(0), 0);
        Checks.due("42: the same end", house.ends(0), 4);
        house.days(365 * 3);
        Checks.due("42: in its last year", house.renew(0), 121);
        Checks.due("42: end", house.ends(0), 7);
        Checks.put(house, 0, 500, 1);
        house.table(0);
        house.days(365 * 3);
        Checks.due("42: no less than 0", house.renew(0), 0);
        Checks.due("42: beyond is the last", house.ends(0), 10);
        Checks.put(house, 0, 1, 9, 9, 9);
        house.table(0);
        Checks.put(house, 0, 1, 101);
        house.table(0);
        house.days(365 * 3);
        Checks.due("42: and of no table ahead", house.renew(0), 99);
        Checks.due("42: entries", house.status(7), 5);
        for (int i = 5; i < 400; i++) {
            house.other(0);
        }
        Checks.due("42: wrong ahead of too many", house.renew(1), -6);
        Checks.due("42: too many entries", house.renew(0), -7);
        Checks.due("42: end stays", house.ends(0), 13);
    }

    private static void promise43Rents() {
        CollegeHouse house = new CollegeHouse();
        Checks.due("43: no lease", house.rents(), 0);
        Checks.due("43: taken", house.rents(), -6);
        house.lease(300, 5, 10, 3, 1, 1);
        house.lease(200, 6, 10, 3, 1, 0);
        house.price(1, 3, 25);
        Checks.due("43: taken still", house.rents(), -6);
        house.days(365);
        Checks.due("43: a lease, and one that ended", house.rents(), 30 + 200);
        Checks.due("43: in the chest", house.status(9), 230);
        Checks.due("43: its head", house.head(0, 1), 230);
        Checks.due("43: once", house.rents(), -6);
        house.days(1);
        Checks.due("43: once a year", house.rents(), -6);
        house.days(364);
        for (int i = 2; i < 399; i++) {
            house.other(0);
        }
        Checks.due("43: entry 400", house.rents(), 500);
        Checks.due("43: wrong ahead of too many", house.rents(), -6);
        house.days(365);
        Checks.due("43: too many", house.rents(), -7);
        Checks.due("43: how many", house.status(7), 400);
    }

    private static void promise44Kept() {
        CollegeHouse house = new CollegeHouse();
        house.person(0);
        Checks.due("44: nobody", house.kept(1, -1), -1);
        Checks.due("44: nobody below", house.kept(-1, 0), -1);
        Checks.due("44: below", house.kept(0, -1), -6);
        Checks.due("44: above", house.kept(0, 366), -6);
        Checks.due("44: none at first", house.kept(0, 365), 0);
        Checks.due("44: then", house.kept(0, 4), 365);
        house.days(364);
        Checks.due("44: in this year", house.kept(0, 5), 4);
        house.days(1);
        Checks.due("44: in another year", house.kept(0, 0), 0);
    }

    private static CollegeHouse fellows() {
        CollegeHouse house = new CollegeHouse();
        for (int who = 0; who < 4; who++) {
            house.person(-9000);
            house.fact(who, 1, 1, -9);
            if (who < 3) {
                house.place(1);
                house.hold(who, who);
            }
        }
        return house;
    }

    private static void promise45And46Dividend() {
        CollegeHouse house = fellows();
        house.other(1000);
        Checks.due("45: pot below", house.dividend(-1), -6);
        Checks.due("45: pot above the chest", house.dividend(1001), -6);
        house.kept(0, 100);
        house.kept(1, 200);
        house.kept(2, 1);
        house.kept(3, 300);
        // 1000 by 301: 332, 664, 3
        Checks.due("45: given", house.dividend(1000), 999);
        Checks.due("45: the rest stays", house.status(9), 1);
        Checks.due("45: paid", house.head(2, 0), -999);
        int[] got = {332, 664, 3, 0};
        for (int who = 0; who < 4; who++) {
            Checks.due("46: got " + who, house.got(who), got[who]);
        }
        Checks.due("45: parted", house.dividend(0), -6);
        house.days(365);
        house.other(99);
        Checks.due("45: days of the year ahead don't count", house.dividend(100), 0);
        Checks.due("45: nothing is given, but it is parted", house.dividend(1), -6);
        house.days(365);
        house.other(501);
        house.kept(2, 1);
        house.kept(0, 1);
        house.leave(0);
        Checks.due("45: fellows alone", house.dividend(601), 601);
        Checks.due("46: by all dividends", house.got(2), 604);
        Checks.due("46: as it was", house.got(0), 332);
        Checks.due("46: nobody", house.got(4), -1);
        Checks.due("46: nobody below", house.got(-1), -1);
        Checks.due("45: entries", house.status(7), 6);
        house.days(365);
        for (int i = 6; i < 400; i++) {
            house.other(0);
        }
        Checks.due("45: wrong ahead of too many", house.dividend(1), -6);
        Checks.due("45: too many", house.dividend(0), -7);
    }

    private static void promise45BigPot() {
        CollegeHouse house = fellows();
        for (int i = 0; i < 100; i++) {
            house.other(99999);
        }
        house.kept(0, 365);
        house.kept(1, 365);
        Checks.due("45: a big pot", house.dividend(9999900), 9999900);
        Checks.due("46: half of it", house.got(0), 4999950);
        Checks.due("46: the other half", house.got(1), 4999950);
    }

    private static void promise47Other() {
        CollegeHouse house = new CollegeHouse();
        Checks.due("47: below", house.other(-100000), -6);
        Checks.due("47: above", house.other(100000), -6);
        Checks.due("47: the chest would be below 0", house.other(-1), -6);
        Checks.due("47: the most", house.other(99999), 99999);
        Checks.due("47: one more", house.other(1), 100000);
        Checks.due("47: the least", house.other(-99999), 1);
        Checks.due("47: to 0", house.other(-1), 0);
        for (int i = 4; i < 400; i++) {
            Checks.due("47: more", house.other(0), 0);
        }
        Checks.due("47: wrong ahead of too many", house.other(-1), -6);
        Checks.due("47: too many", house.other(0), -7);
        Checks.due("47: entries", house.status(7), 400);
    }

    private static void promise48Head() {
        CollegeHouse house = new CollegeHouse();
        house.other(50);
        house.other(-20);
        house.days(365);
        house.other(7);
        Checks.due("48: a year", house.head(3, 0), 30);
        Checks.due("48: another", house.head(3, 1), 7);
        Checks.due("48: another head", house.head(0, 0), 0);
        Checks.due("48: a year to come", house.head(3, 2), 0);
        Checks.due("48: no year", house.head(3, -1), 0);
        Checks.due("48: a year behind all", house.head(2, 110), 0);
        Checks.due("48: far off", house.head(3, Integer.MAX_VALUE), 0);
        Checks.due("48: far off below", house.head(3, Integer.MIN_VALUE), 0);
        Checks.due("48: no head", house.head(4, 0), -1_000_001);
        Checks.due("48: no head below", house.head(-1, 0), -1_000_001);
        for (int i = 0; i < 9; i++) {
            house.days(4000);
        }
        house.days(3635);
        Checks.due("48: the last day", house.status(8), 40000);
        house.other(9);
        Checks.due("48: the last year", house.head(3, 109), 9);
    }

    private static void promise49Audit() {
        CollegeHouse house = new CollegeHouse();
        Checks.due("49: empty", house.audit(0), 0);
        house.other(500);
        Checks.due("49: more", house.audit(503), 3);
        Checks.due("49: less", house.audit(0), -500);
        Checks.due("49: as an int", house.audit(Integer.MIN_VALUE), Integer.MIN_VALUE - 500);
        Checks.due("49: no entry", house.status(7), 1);
    }

    public static void main(String[] args) {
        promise36Lease();
        promise37Lives();
        promise38Price();
        promise39Ends();
        promise40Rent();
        promise41Table();
        promise42Renew();
        promise43Rents();
        promise44Kept();
        promise45And46Dividend();
        promise45BigPot();
        promise47Other();
        promise48Head();
        promise49Audit();
        Checks.end();
    }
}
