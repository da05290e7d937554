/**
 * Promises 50 to 53 at their edges, sentence by sentence: each method bears the promise's number, and each check the
 * words of the document that it holds. What is refused stands in RefusalsTest.
 */
public final class EdgesOfPlansTest {
    private static void table(CollegeHouse house, long... rates) {
        Checks.put(house, 8, rates);
        Checks.due("41: table", house.table(8), rates.length);
    }

    private static int judge(CollegeHouse house, int years, int floor, int upkeep, long... row) {
        Checks.put(house, 9, row);
        return house.judge(9, years, floor, upkeep);
    }

    private static void promise50TwoAtMost() {
        CollegeHouse house = new CollegeHouse();
        Checks.due("50: cost 1, worth 0", house.roof(1, 0), 0);
        Checks.due("50: cost 99,999, worth 9,999", house.roof(99999, 9999), 1);
        Checks.due("50: 2 at most", house.roof(1, 0), -7);
        house.other(99999);
        house.other(1);
        Checks.due("51: ten YEARS of 9,999 don't bring 99,999", house.plan(10, 0, 0), 100000);
        Checks.due("52: none is mended", house.planned(2), -1);
        Checks.due("53: both mended at once, to 0", judge(house, 10, 0, 0, 0, 0, 0), 99990);
        Checks.due("53: and below 1", judge(house, 10, 1, 0, 0, 0, 0), -10);
    }

    private static void promise51YearsFloorUpkeep() {
        CollegeHouse house = new CollegeHouse();
        house.other(99999);
        Checks.due("51: 1 YEAR", house.plan(1, 0, 0), 99999);
        Checks.due("51: 10 YEARS", house.plan(10, 0, 0), 99999);
        Checks.due("51: FLOOR 99,999", house.plan(10, 99999, 0), 99999);
        Checks.due("51: FLOOR 99,999 and UPKEEP 1: there is none", house.plan(1, 99999, 1), -6);
        Checks.due("51: UPKEEP 99,999", house.plan(1, 0, 99999), 0);
        Checks.due("51: UPKEEP 99,999 in two YEARS: there is none", house.plan(2, 0, 99999), -6);
        Checks.due("51: FLOOR or more behind each YEAR", house.plan(3, 96999, 1000), 96999);
        Checks.due("51: one more", house.plan(3, 97000, 1000), -6);
        Checks.due("52: of the latest that was not refused", house.planned(0), 0);
        Checks.due("51: THE CHEST stays", house.status(9), 99999);
    }

    private static void promise51NoneIsNoPlan() {
        CollegeHouse house = new CollegeHouse();
        Checks.due("52: no plan() yet", house.planned(0), -1);
        Checks.due("51: there is none", house.plan(1, 1, 0), -6);
        Checks.due("52: still no plan()", house.planned(0), -1);
        Checks.due("51: WORTH 0", house.plan(1, 0, 0), 0);
        Checks.due("52: renewing bits: none", house.planned(0), 0);
        Checks.due("52: no ROOF 0", house.planned(1), -1);
        Checks.due("52: no ROOF 1", house.planned(2), -1);
        Checks.due("52: another what", house.planned(3), -1);
    }

    /** Leases whose END falls in the plan's years: this year's, the last year's; not the one ahead, nor the one behind. */
    private static void promise51WhoseEndFallsInThem() {
        CollegeHouse house = new CollegeHouse();
        house.person(0);
        house.days(365 * 2);
        house.lease(10, 0, 0, 0, 1, 1);
        house.lease(10, 0, 0, 0, 1, 2);
        house.lease(10, 0, 0, 0, 1, 4);
        house.lease(10, 0, 0, 0, 1, 5);
        house.lives(10, 0, 0, 0, 1);
        table(house, 0, 1000);
        Checks.due("51: three YEARS: 10 thrice, 10 twice, and two FINES", house.plan(3, 0, 0), 30 + 200);
        Checks.due("52: of this YEAR and of the last", house.planned(0), 0b110);
        Checks.due("53: its END is a YEAR behind them", judge(house, 3, 0, 0, 0b1000), -6);
        Checks.due("53: its END fell a YEAR ahead", judge(house, 3, 0, 0, 0b1), -6);
        Checks.due("53: it is for LIVES", judge(house, 3, 0, 0, 0b10000), -6);
        Checks.due("53: no such LEASE", judge(house, 3, 0, 0, 0b100000), -6);
        Checks.due("53: the bit of this YEAR", judge(house, 3, 0, 0, 0b10), 30 + 100);
        Checks.due("53: the bit of the last", judge(house, 3, 0, 0, 0b100), 50 + 100);
        Checks.due("53: none", judge(house, 3, 0, 0, 0), 50);
        Checks.due("51: one YEAR", house.plan(1, 0, 0), 10 + 100);
        Checks.due("52: of this YEAR alone", house.planned(0), 0b10);
        house.death(0, 0);
        Checks.due("53: for LIVES, though it has an END", judge(house, 3, 0, 0, 0b10000), -6);
        Checks.due("53: which is behind: VALUE", judge(house, 3, 0, 0, 0), 80);
    }

    /** Renewed: its rent as before to the plan's end; not: its value from the year behind its end on. */
    private static void promise51RentAsBefore() {
        CollegeHouse house = new CollegeHouse();
        house.lease(100, 7, 10, 5, 1, 1);
        house.price(0, 5, 1);
        house.price(1, 5, 2);
        house.price(2, 5, 3);
        house.price(4, 5, 4);
        table(house, 0, 50);
        Checks.due("53: not renewed: VALUE from the YEAR behind END on", judge(house, 4, 0, 0, 0), 8 + 9 + 200);
        Checks.due("53: renewed: RENT as before, though FULL is 1", judge(house, 6, 0, 0, 1),
            8 + 9 + 50 + 10 + 10 + 11 + 11);
        Checks.due("53: its FINE comes in the YEAR of its END, not ahead of it", judge(house, 2, 9, 0, 1), -10);
        Checks.due("53: THE CHEST behind YEAR 0", judge(house, 2, 8, 0, 1), 67);
        Checks.due("53: PRICES as KNOWN now", judge(house, 3, 0, 0, 1), 77);
        house.price(2, 4, 900);
        Checks.due("53: of that WEEK", judge(house, 3, 0, 0, 1), 77);
        house.rents();
        Checks.due("53: RENTS of this YEAR were taken", judge(house, 3, 0, 0, 1), 77);
        Checks.due("51: and aren't taken again", house.plan(1, 8, 0), 8);
        house.days(365);
        Checks.due("51: RENTS of another YEAR", house.plan(1, 0, 0), 8 + 9 + 50);
        Checks.due("52: it ends in this YEAR", house.planned(0), 1);
        house.rents();
        Checks.due("51: the FINE comes, though RENTS were taken", house.plan(1, 0, 0), 8 + 9 + 50);
    }

    private static void promise51LesserBits() {
        CollegeHouse house = new CollegeHouse();
        house.lease(100, 0, 0, 0, 1, 0);
        house.lease(100, 0, 0, 0, 1, 0);
        table(house, 0, 100);
        // a fine of 100 now, or a value of 100 in year 1
        Checks.due("51: of several with like WORTH", house.plan(2, 0, 0), 200);
        Checks.due("52: the lesser renewing bits", house.planned(0), 0);
        Checks.due("51: FLOOR 100 wants one FINE", house.plan(2, 100, 0), 200);
        Checks.due("52: the lesser bit", house.planned(0), 1);
        Checks.due("51: FLOOR 101 wants two", house.plan(2, 101, 0), 200);
        Checks.due("52: both", house.planned(0), 3);
        Checks.due("51: the greatest WORTH first", house.plan(1, 0, 0), 200);
        Checks.due("52: both FINES", house.planned(0), 3);
    }

    private static void promise51EarlierYears() {
        CollegeHouse house = new CollegeHouse();
        house.other(100);
        house.roof(30, 0);
        Checks.due("51: a ROOF of no worth", house.plan(4, 0, 0), 100);
        Checks.due("52: NONE: not mended", house.planned(1), -1);
        house.roof(20, 10);
        Checks.due("51: two YEARS of 10 for 20: like WORTH", house.plan(2, 0, 0), 100);
        Checks.due("52: the earlier YEAR of ROOF 1, none comes last", house.planned(2), 0);
        Checks.due("52: 0 on: and ROOF 0 none", house.planned(1), -1);
        Checks.due("51: one YEAR of 10 for 20", house.plan(1, 0, 0), 100);
        Checks.due("52: none", house.planned(2), -1);
    }

    private static void promise51RoofsInOrder() {
        CollegeHouse house = new CollegeHouse();
        house.lease(50, 50, 0, 0, 1, 100);
        house.roof(50, 40);
        house.roof(50, 40);
        // 50 a year: one roof in year 0, the other in year 1, whichever
        Checks.due("51: as soon as each can be paid", house.plan(3, 0, 0), 50 + 3 * 40 + 2 * 40);
        Checks.due("52: the earlier YEAR of ROOF 0", house.planned(1), 0);
        Checks.due("52: then of ROOF 1", house.planned(2), 1);
        Checks.due("53: the other way about is worth as much", judge(house, 3, 0, 0, 0, 1, 0), 250);
        Checks.due("53: both at once: below FLOOR in YEAR 0", judge(house, 3, 0, 0, 0, 0, 0), -10);
        Checks.due("53: both in YEAR 1, to 0", judge(house, 3, 0, 0, 0, 1, 1), 50 + 160);
        Checks.due("53: a FLOOR of 1: below it in YEAR 1", judge(house, 3, 1, 0, 0, 1, 1), -11);
        Checks.due("53: both in YEAR 2", judge(house, 3, 50, 0, 0, 2, 2), 50 + 80);
        Checks.due("53: a FLOOR of 51: below it in YEAR 0 already", judge(house, 3, 51, 0, 0, 2, 2), -10);
        Checks.due("53: the last YEAR, and none", judge(house, 3, 0, 0, 0, 2, -1), 150 - 50 + 40);
        Checks.due("53: a YEAR of Y", judge(house, 3, 0, 0, 0, 3, -1), -6);
        Checks.due("53: of ROOF 1", judge(house, 3, 0, 0, 0, -1, 3), -6);
        Checks.due("53: a YEAR of -2", judge(house, 3, 0, 0, 0, -2, -1), -6);
        Checks.due("53: of ROOF 1", judge(house, 3, 0, 0, 0, -1, -2), -6);
    }

    private static void promise51LastYearOfTen() {
        CollegeHouse house = new CollegeHouse();
        house.lease(10, 10, 0, 0, 1, 100);
        house.roof(100, 200);
        house.roof(100, 90);
        Checks.due("51: 100 in YEAR 9", house.plan(10, 0, 0), 200);
        Checks.due("52: mended in YEAR 9", house.planned(1), 9);
        Checks.due("52: none", house.planned(2), -1);
        Checks.due("51: 90 in nine YEARS", house.plan(9, 0, 0), 90);
        Checks.due("52: can't be mended", house.planned(1), -1);
        Checks.due("53: -10 less the YEAR", judge(house, 10, 0, 0, 0, 8, -1), -18);
        Checks.due("53: the last YEAR", judge(house, 10, 0, 0, 0, -1, 9), 90);
        Checks.due("53: below in the last YEAR", judge(house, 10, 1, 0, 0, -1, 9), -19);
    }

    /** The floor is kept behind each year, also in one that lies behind a mending, and between two of them. */
    private static void promise51FloorBehindEachYear() {
        CollegeHouse house = new CollegeHouse();
        house.other(100);
        house.lease(30, 0, 0, 0, 1, 1);
        house.roof(60, 50);
        house.roof(40, 30);
        // behind the years: 80, 60, 70, 80, less roofs, with an upkeep of 20
        Checks.due("53: no ROOF", judge(house, 4, 60, 20, 0, -1, -1), 80);
        Checks.due("53: below FLOOR in YEAR 1", judge(house, 4, 61, 20, 0, -1, -1), -11);
        Checks.due("53: ROOF 0 at once", judge(house, 4, 0, 20, 0, 0, -1), 20 + 200);
        Checks.due("53: ROOF 1 too, in YEAR 2: below", judge(house, 4, 0, 20, 0, 0, 2), -12);
        Checks.due("51: BEST", house.plan(4, 0, 20), 220);
        Checks.due("52: ROOF 0 at once", house.planned(1), 0);
        Checks.due("52: ROOF 1 not", house.planned(2), -1);
        Checks.due("51: a FLOOR of 20: ROOF 1 at once, as ROOF 0 must wait", house.plan(4, 20, 20), 40 + 120);
        Checks.due("52: so ROOF 0 not", house.planned(1), -1);
        Checks.due("52: ROOF 1 at once", house.planned(2), 0);
    }

    private static void promise52OfTheLatest() {
        CollegeHouse house = new CollegeHouse();
        house.other(10);
        house.roof(10, 20);
        Checks.due("51: mended", house.plan(5, 0, 0), 100);
        Checks.due("52: YEAR 0", house.planned(1), 0);
        Checks.due("52: no LEASE is renewed", house.planned(0), 0);
        house.lease(5, 0, 0, 0, 1, 0);
        Checks.due("53: judging is no plan()", judge(house, 5, 0, 0, 1, 3), 40);
        Checks.due("52: no LEASE is renewed still", house.planned(0), 0);
        Checks.due("52: YEAR 0 still", house.planned(1), 0);
        Checks.due("51: refused", house.plan(5, 31, 0), -6);
        Checks.due("52: YEAR 0 still", house.planned(1), 0);
        house.roof(1, 1);
        Checks.due("52: a ROOF of later isn't mended", house.planned(2), -1);
        house.other(-10);
        Checks.due("52: what is in THE CHEST now doesn't matter", house.planned(1), 0);
        Checks.due("51: a later one", house.plan(1, 0, 0), 0);
        Checks.due("52: counts", house.planned(1), -1);
        Checks.due("52: another what", house.planned(Integer.MAX_VALUE), -1);
        Checks.due("52: another what", house.planned(Integer.MIN_VALUE), -1);
    }

    private static void promise53Elements() {
        CollegeHouse house = new CollegeHouse();
        house.lease(10, 1, 0, 0, 1, 0);
        Checks.due("53: no element", judge(house, 1, 0, 0), -5);
        Checks.due("53: one, without a ROOF", judge(house, 1, 0, 0, 1), 1);
        Checks.due("53: more than are wanted", judge(house, 1, 0, 0, 1, 99, 99), 1);
        house.roof(1, 5);
        Checks.due("53: one, with a ROOF", judge(house, 1, 0, 0, 1), -5);
        Checks.due("53: fewer ahead of wrong ones", judge(house, 11, -1, 0, -1), -5);
        Checks.due("53: two", judge(house, 1, 0, 0, 1, 0), 5);
        house.roof(1, 7);
        Checks.due("53: two, with two ROOFS", judge(house, 1, 0, 0, 1, 0), -5);
        Checks.due("53: three", judge(house, 2, 0, 0, 1, 0, 1), 5 + 5 + 7);
        for (int sort = 0; sort < 4; sort++) {
            Checks.putSort(house, 3, sort, 1, -1, 0);
            Checks.due("53: a ROW of SORT " + sort, house.judge(3, 2, 0, 0), 2 - 1 + 14);
        }
        Checks.putSort(house, 3, 3, (1L << 40) + 1, (3L << 32) + 0xFFFFFFFFL, 1L << 32);
        Checks.due("53: elements as ints", house.judge(3, 2, 0, 0), 15);
        Checks.putSort(house, 3, 0, -1, -1, -1);
        Checks.due("53: all bits", house.judge(3, 2, 0, 0), -6);
        Checks.putSort(house, 3, 2, 1L << 31, -1, -1);
        Checks.due("53: the highest bit", house.judge(3, 2, 0, 0), -6);
    }

    private static void promise51EightLeases() {
        CollegeHouse house = new CollegeHouse();
        for (int l = 0; l < 8; l++) {
            house.lease(100 * (l + 1), 0, 0, 0, 1, 0);
        }
        table(house, 0, 100);
        Checks.due("51: all FINES", house.plan(1, 0, 0), 3600);
        Checks.due("52: all eight", house.planned(0), 255);
        Checks.due("53: the eighth alone", judge(house, 1, 0, 0, 128), 800);
        Checks.due("53: a ninth", judge(house, 1, 0, 0, 256), -6);
        Checks.due("51: the eighth alone keeps the FLOOR", house.plan(2, 800, 0), 3600);
        Checks.due("52: but the lesser bits do, too", house.planned(0), 0b1101);
    }

    /** A lease for lives that ends in the plan's first year is none of years: it can't be renewed. */
    private static void promise51LivesAreNotRenewed() {
        CollegeHouse house = new CollegeHouse();
        house.person(-9000);
        house.lives(10, 500, 0, 0, 1);
        table(house, 0, 100);
        Checks.due("51: LIVES that aren't told to end", house.plan(3, 0, 0), 1500);
        house.death(0, 0);
        Checks.due("39: it ends in this YEAR", house.ends(0), 0);
        Checks.due("51: RENT of this YEAR, then VALUE", house.plan(3, 0, 0), 520);
        Checks.due("52: it isn't renewed", house.planned(0), 0);
        Checks.due("53: as it is judged", judge(house, 3, 0, 0, 0), 520);
        Checks.due("53: a bit of a LEASE for LIVES", judge(house, 3, 0, 0, 1), -6);
    }

    private static void promise51GreatChest() {
        CollegeHouse house = new CollegeHouse();
        for (int i = 0; i < 400; i++) {
            house.other(99999);
        }
        house.roof(99999, 9999);
        Checks.due("51: all that may come to THE CHEST by HEAD 3", house.plan(10, 99999, 0), 400 * 99999);
        Checks.due("52: ten YEARS of 9,999 are less than 99,999", house.planned(1), -1);
        Checks.due("51: UPKEEP of ten YEARS", house.plan(10, 99999, 99999), 390 * 99999);
        Checks.due("53: mended", judge(house, 1, 0, 99999, 0, 0), 398 * 99999 + 9999);
    }

    public static void main(String[] args) {
        promise50TwoAtMost();
        promise51YearsFloorUpkeep();
        promise51NoneIsNoPlan();
        promise51WhoseEndFallsInThem();
        promise51RentAsBefore();
        promise51LivesAreNotRenewed();
        promise51LesserBits();
        promise51EarlierYears();
        promise51RoofsInOrder();
        promise51LastYearOfTen();
        promise51GreatChest();
        promise51FloorBehindEachYear();
        promise51EightLeases();
        promise52OfTheLatest();
        promise53Elements();
        Checks.end();
    }
}
