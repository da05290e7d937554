/** Promises 50 to 53: roofs, plans, what was planned, and judging a plan. */
public final class PlansTest {
    private static void promise50Roof() {
        CollegeHouse house = new CollegeHouse();
        Checks.due("50: cost 0", house.roof(0, 1), -6);
        Checks.due("50: cost above", house.roof(100000, 1), -6);
        Checks.due("50: worth below", house.roof(1, -1), -6);
        Checks.due("50: worth above", house.roof(1, 10000), -6);
        Checks.due("50: the least", house.roof(1, 0), 0);
        Checks.due("50: the most", house.roof(99999, 9999), 1);
        Checks.due("50: wrong ahead of too many", house.roof(0, 0), -6);
        Checks.due("50: too many", house.roof(1, 0), -7);
    }

    private static void promise51Refused() {
        CollegeHouse house = new CollegeHouse();
        Checks.due("52: no plan yet", house.planned(0), -1);
        Checks.due("51: no year", house.plan(0, 0, 0), -6);
        Checks.due("51: 11 years", house.plan(11, 0, 0), -6);
        Checks.due("51: floor below", house.plan(1, -1, 0), -6);
        Checks.due("51: floor above", house.plan(1, 100000, 0), -6);
        Checks.due("51: upkeep below", house.plan(1, 0, -1), -6);
        Checks.due("51: upkeep above", house.plan(1, 0, 100000), -6);
        Checks.due("51: below the floor", house.plan(1, 1, 0), -6);
        Checks.due("51: refusals", house.status(16), 7);
        Checks.due("52: no plan yet still", house.planned(0), -1);
        Checks.due("51: nothing to do", house.plan(10, 0, 0), 0);
        Checks.due("52: no bits", house.planned(0), 0);
        Checks.due("52: no roof", house.planned(1), -1);
        Checks.due("52: no second roof", house.planned(2), -1);
        Checks.due("51: upkeep alone", house.plan(1, 0, 1), -6);
        house.other(10);
        Checks.due("51: upkeep of ten years", house.plan(10, 0, 1), 0);
        Checks.due("51: and one more", house.plan(10, 1, 1), -6);
    }

    /** Lease 0 ends in year 1, 1 in year 3, 2 is for a life, 3 ended in year 0; all is asked from year 1 on. */
    private static CollegeHouse lands() {
        CollegeHouse house = new CollegeHouse();
        house.person(0);
        Checks.put(house, 0, 0, 50, 90, 120);
        house.table(0);
        house.lease(100, 10, 20, 5, 3, 1);
        house.lease(200, 20, 0, 5, 2, 3);
        house.lives(500, 5, 0, 0, 1);
        house.lease(40, 1, 1, 1, 1, 0);
        house.price(1, 0, 10);
        house.price(2, 5, 20);
        house.days(365);
        house.other(300);
        return house;
    }

    private static void promise51Leases() {
        CollegeHouse house = lands();
        // year 1: 30 + 20 + 5 + 40 = 95; year 2 with lease 0 lapsed: 100 + 20 + 5 + 40 = 165
        Checks.due("51: one year: the fine of 120", house.plan(1, 0, 0), 300 + 95 + 120);
        Checks.due("52: lease 0 is renewed", house.planned(0), 1);
        Checks.due("51: two years: the fine and 50 of rent for 100", house.plan(2, 0, 0), 300 + 95 + 165 + 120 - 50);
        Checks.due("52: lease 0 is renewed", house.planned(0), 1);
        Checks.due("51: upkeep", house.plan(2, 0, 7), 300 + 95 + 165 + 70 - 14);
        house.rents();
        Checks.due("51: rents were taken", house.plan(1, 0, 0), 395 + 120);
        Checks.due("51: three years: and 50 of rent for 100 again", house.plan(3, 0, 0), 395 + 165 + 165 + 120 + 180 - 100);
        Checks.due("52: both are renewed", house.planned(0), 3);
        // year 4: lease 1 brings 20 if it is renewed, 200 if not; its fine is 180: of like ones the lesser bits
        Checks.due("51: of like ones the lesser bits", house.plan(4, 0, 0), 395 + 165 + 165 + 345);
        Checks.due("52: none is renewed", house.planned(0), 0);
        Checks.due("51: refused", house.plan(4, 99999, 0), -6);
        Checks.due("52: leaves the latest plan", house.planned(0), 0);
        Checks.due("51: a floor that fines alone keep", house.plan(3, 515, 0), 395 + 165 + 165 + 120 + 180 - 100);
        Checks.due("51: a floor out of reach", house.plan(3, 516, 0), -6);
        Checks.due("51: the state stays", house.status(9), 395);
        Checks.due("51: and ends", house.ends(0), 1);
    }

    private static void promise51Roofs() {
        CollegeHouse house = new CollegeHouse();
        house.lease(100, 50, 0, 0, 1, 50);
        house.roof(100, 30);
        house.roof(40, 20);
        // the chest: 50, 100, 150, 200, less roofs
        Checks.due("51: one year", house.plan(1, 0, 0), 50);
        Checks.due("52: not mended", house.planned(1), -1);
        Checks.due("52: not mended either", house.planned(2), -1);
        Checks.due("51: three years", house.plan(3, 0, 0), 170);
        Checks.due("52: not the dear one", house.planned(1), -1);
        Checks.due("52: the cheap one at once", house.planned(2), 0);
        Checks.due("51: four years", house.plan(4, 0, 0), 240);
        Checks.due("52: not mended", house.planned(1), -1);
        Checks.due("52: at once", house.planned(2), 0);
        Checks.due("51: a floor of 20", house.plan(4, 20, 0), 220);
        Checks.due("52: a year later", house.planned(2), 1);
        Checks.due("51: six years", house.plan(6, 0, 0), 300 - 40 + 120 - 100 + 120);
        Checks.due("52: when it can be paid", house.planned(1), 2);
        Checks.due("52: at once", house.planned(2), 0);
        Checks.due("52: another what", house.planned(3), -1);
        Checks.due("52: another what below", house.planned(-1), -1);
    }

    private static void promise51Ties() {
        CollegeHouse house = new CollegeHouse();
        house.other(150);
        house.roof(10, 10);
        house.roof(100, 25);
        Checks.due("51: of like ones the earlier year: none comes last", house.plan(1, 0, 0), 150);
        Checks.due("52: mended", house.planned(1), 0);
        Checks.due("52: a loss isn't", house.planned(2), -1);
        Checks.due("51: four years", house.plan(4, 0, 0), 150 + 30);
        Checks.due("52: the second is mended too", house.planned(2), 0);
        CollegeHouse free = new CollegeHouse();
        free.other(1000);
        free.roof(5, 0);
        Checks.due("51: a roof of no worth", free.plan(5, 0, 0), 1000);
        Checks.due("52: is not mended", free.planned(1), -1);
        CollegeHouse like = new CollegeHouse();
        like.other(100);
        like.roof(100, 50);
        like.roof(100, 50);
        Checks.due("51: one of two like roofs", like.plan(3, 0, 0), 150);
        Checks.due("52: the first", like.planned(1), 0);
        Checks.due("52: not the second", like.planned(2), -1);
        CollegeHouse later = new CollegeHouse();
        later.other(50);
        later.plan(2, 0, 0);
        later.roof(1, 9);
        Checks.due("52: a roof that came behind the plan", later.planned(1), -1);
    }

    private static void promise51OneRoof() {
        CollegeHouse house = new CollegeHouse();
        house.other(100);
        house.roof(60, 50);
        Checks.due("51: one roof", house.plan(2, 40, 0), 140);
        Checks.due("52: it is mended, down to the floor", house.planned(1), 0);
        Checks.due("52: there is no other", house.planned(2), -1);
        Checks.due("51: a higher floor", house.plan(2, 41, 0), 100);
        Checks.due("52: it isn't mended", house.planned(1), -1);
        house.roof(30, 20);
        Checks.due("51: both, down to the floor", house.plan(3, 10, 0), 10 + 150 + 60);
        Checks.due("52: the first", house.planned(1), 0);
        Checks.due("52: the second", house.planned(2), 0);
        Checks.due("51: not both", house.plan(3, 11, 0), 40 + 150);
        Checks.due("52: not the second", house.planned(2), -1);
        Checks.due("51: the second alone, down to the floor", house.plan(3, 70, 0), 70 + 60);
        Checks.due("52: the second", house.planned(2), 0);
        Checks.due("51: neither", house.plan(3, 71, 0), 100);
        Checks.put(house, 0, 0, 0, 3);
        Checks.due("53: the second roof's year", house.judge(0, 3, 0, 0), -6);
    }

    /** What was reckoned for one plan does nothing to the next. */
    private static void promise51Again() {
        CollegeHouse house = new CollegeHouse();
        house.person(0);
        house.lives(100, 10, 0, 0, 1);
        house.lease(100, 10, 0, 0, 4, 1);
        Checks.put(house, 0, 0, 0, 0, 0, 100);
        house.table(0);
        Checks.due("51: with a fine", house.plan(2, 0, 0), 40 + 100);
        Checks.due("52: renewed", house.planned(0), 2);
        Checks.put(house, 1, 2);
        Checks.due("53: its end falls in two years", house.judge(1, 2, 0, 0), 140);
        Checks.due("53: but not in one", house.judge(1, 1, 0, 0), -6);
        Checks.put(house, 1, 1);
        Checks.due("53: a lease for lives", house.judge(1, 2, 0, 0), -6);
        house.renew(1);
        Checks.put(house, 1, 2);
        Checks.due("53: its end goes on", house.judge(1, 2, 0, 0), -6);
        Checks.due("51: five years of rent and a fine at the end", house.plan(5, 0, 0), 100 + 100 + 100);
        Checks.due("52: renewed in the last", house.planned(0), 2);
        Checks.due("51: no fine, no gain", house.plan(2, 0, 0), 140);
        Checks.due("52: none", house.planned(0), 0);
    }

    private static void promise53Refused() {
        CollegeHouse house = lands();
        house.roof(10, 1);
        house.show(1, 0);
        Checks.put(house, 0, 0);
        Checks.due("53: no shelf", house.judge(10, 0, 0, 0), -1);
        Checks.due("53: one of people", house.judge(1, 0, 0, 0), -2);
        Checks.due("53: nothing", house.judge(2, 0, 0, 0), -3);
        Checks.due("53: fewer elements", house.judge(0, 0, 0, 0), -5);
        Checks.put(house, 0, 0, -1, 77);
        Checks.due("53: no year", house.judge(0, 0, 0, 0), -6);
        Checks.due("53: 11 years", house.judge(0, 11, 0, 0), -6);
        Checks.due("53: floor below", house.judge(0, 1, -1, 0), -6);
        Checks.due("53: floor above", house.judge(0, 1, 100000, 0), -6);
        Checks.due("53: upkeep below", house.judge(0, 1, 0, -1), -6);
        Checks.due("53: upkeep above", house.judge(0, 1, 0, 100000), -6);
        house.set(0, 0, 2);
        Checks.due("53: an end behind the plan", house.judge(0, 2, 0, 0), -6);
        Checks.due("53: in it", house.judge(0, 3, 0, 0), 300 + 95 + 165 + 165 + 180);
        house.set(0, 0, 4);
        Checks.due("53: for a life", house.judge(0, 9, 0, 0), -6);
        house.set(0, 0, 8);
        Checks.due("53: it ended", house.judge(0, 9, 0, 0), -6);
        house.set(0, 0, 16);
        Checks.due("53: no lease", house.judge(0, 9, 0, 0), -6);
        house.set(0, 0, -1);
        Checks.due("53: all bits", house.judge(0, 9, 0, 0), -6);
        house.set(0, 0, 0);
        house.set(0, 1, -2);
        Checks.due("53: year -2", house.judge(0, 2, 0, 0), -6);
        house.set(0, 1, 2);
        Checks.due("53: a year behind the plan", house.judge(0, 2, 0, 0), -6);
        house.set(0, 1, 1);
        Checks.due("53: the last year", house.judge(0, 2, 0, 0), 300 + 95 + 165 - 10 + 1);
        Checks.due("52: judging is no plan", house.planned(0), -1);
    }

    private static void promise53Judge() {
        CollegeHouse house = lands();
        house.roof(50, 10);
        house.roof(60, 20);
        Checks.put(house, 0, 1, 0, 1);
        Checks.due("53: worth", house.judge(0, 2, 0, 5), 300 + 95 + 165 + 70 - 10 - 110 + 20 + 20);
        Checks.due("53: just the floor in year 0", house.judge(0, 2, 300 + 215 - 5 - 50, 5), 550);
        Checks.due("53: the first year below", house.judge(0, 2, 300 + 215 - 5 - 50 + 1, 5), -10);
        Checks.put(house, 0, 0, -1, 1);
        Checks.due("53: the second year below", house.judge(0, 3, 201, 150), -11);
        Checks.due("53: and one less is the floor", house.judge(0, 2, 200, 150), 200 + 20);
        Checks.put(house, 0, 0, -1, -1);
        Checks.due("53: the third year", house.judge(0, 10, 10, 260), -12);
        house.rents();
        Checks.due("53: rents were taken", house.judge(0, 1, 0, 0), 395);
        int best = house.plan(5, 0, 100);
        Checks.put(house, 0, house.planned(0), house.planned(1), house.planned(2));
        Checks.due("53: as planned", house.judge(0, 5, 0, 100), best);
        Checks.putSort(house, 0, 3, 7L << 32, -1, -1, 5);
        Checks.due("53: elements as ints, and more of them", house.judge(0, 1, 0, 0), 395);
    }

    public static void main(String[] args) {
        promise50Roof();
        promise51Refused();
        promise51Leases();
        promise51Roofs();
        promise51Ties();
        promise51OneRoof();
        promise51Again();
        promise53Refused();
        promise53Judge();
        Checks.end();
    }
}
