/** Promises 11 to 17: shelves with rows and people. */
public final class ShelvesTest {
    private static void promise11Row() {
        CollegeHouse house = new CollegeHouse();
        Checks.due("11: no shelf", house.row(10, 0, 1), -1);
        Checks.due("11: no shelf below", house.row(-1, 9, -1), -1);
        Checks.due("11: size below 0", house.row(0, 4, -1), -4);
        Checks.due("11: sort 4", house.row(0, 4, 81), -6);
        Checks.due("11: sort -1", house.row(0, -1, 0), -6);
        Checks.due("11: too many", house.row(0, 0, 81), -7);
        Checks.due("11: nothing is held", house.holds(0), -1);
        Checks.due("11: empty", house.row(0, 3, 0), 1);
        Checks.due("11: of longs", house.holds(0), 103);
        Checks.due("11: full", house.row(0, 1, 80), 1);
        Checks.due("11: of shorts", house.holds(0), 101);
        Checks.due("11: last element", house.set(0, 79, 3), 1);
        Checks.due("11: a new one", house.row(0, 1, 80), 1);
        Checks.due("11: is 0", house.element(0, 79), 0);
        house.person(0);
        house.show(1, 0);
        Checks.due("11: in place of one of people", house.row(1, 0, 1), 1);
        Checks.due("11: it is a row", house.holds(1), 100);
        Checks.due("11: that takes an element", house.set(1, 0, 5), 1);
    }

    private static void promise12Set() {
        CollegeHouse house = new CollegeHouse();
        long big = 0x1234_5678_9ABC_DEF0L;
        long[] kept = {(byte) 0xF0, (short) 0xDEF0, 0x9ABC_DEF0, big};
        for (int sort = 0; sort < 4; sort++) {
            house.row(0, sort, 2);
            Checks.due("12: set", house.set(0, 1, big), 1);
            Checks.due("12: lowest bits of sort " + sort, house.element(0, 1), kept[sort]);
            Checks.due("12: its neighbour", house.element(0, 0), 0);
            house.set(0, 0, -1);
            Checks.due("12: below 0", house.element(0, 0), -1);
        }
        house.person(0);
        house.show(1, 0);
        Checks.due("12: no shelf", house.set(10, 0, 0), -1);
        Checks.due("12: one of people", house.set(1, 5, 0), -2);
        Checks.due("12: nothing", house.set(2, -5, 0), -3);
        Checks.due("12: beyond", house.set(0, 2, 0), -5);
        Checks.due("12: below", house.set(0, -1, 0), -5);
        house.row(3, 0, 0);
        Checks.due("12: of an empty row", house.set(3, 0, 0), -5);
    }

    private static void promise13Copy() {
        CollegeHouse house = new CollegeHouse();
        Checks.put(house, 0, 1, 2, 3, 4, 5);
        Checks.put(house, 1, 9, 9, 9);
        house.row(2, 1, 5);
        house.person(0);
        house.show(3, 0);
        Checks.due("13: two", house.copy(0, 1, 3, 1, 2), 1);
        Checks.due("13: stays", house.element(1, 0), 9);
        Checks.due("13: comes", house.element(1, 1), 4);
        Checks.due("13: comes too", house.element(1, 2), 5);
        Checks.due("13: onto itself, upwards", house.copy(0, 0, 0, 1, 4), 1);
        long[] up = {1, 1, 2, 3, 4};
        long[] down = {1, 2, 3, 4, 4};
        for (int i = 0; i < 5; i++) {
            Checks.due("13: as they were", house.element(0, i), up[i]);
        }
        Checks.due("13: downwards", house.copy(0, 0, 1, 0, 4), 1);
        for (int i = 0; i < 5; i++) {
            Checks.due("13: as they were", house.element(0, i), down[i]);
        }
        Checks.due("13: none at the ends", house.copy(0, 1, 5, 3, 0), 1);
        Checks.due("13: none beyond", house.copy(0, 1, 6, 3, 0), -5);
        Checks.due("13: none beyond the goal", house.copy(0, 1, 5, 4, 0), -5);
        Checks.due("13: no shelf", house.copy(10, 3, 0, 0, -1), -1);
        Checks.due("13: no goal", house.copy(3, -1, 0, 0, -1), -1);
        Checks.due("13: one of people", house.copy(3, 4, 0, 0, -1), -2);
        Checks.due("13: one of people as goal", house.copy(4, 3, 0, 0, -1), -2);
        Checks.due("13: two sorts", house.copy(0, 2, 0, 0, -1), -2);
        Checks.due("13: nothing", house.copy(4, 0, 0, 0, -1), -3);
        Checks.due("13: nothing as goal", house.copy(0, 4, 0, 0, -1), -3);
        Checks.due("13: below", house.copy(0, 1, -1, 0, -1), -4);
        Checks.due("13: i below", house.copy(0, 1, -1, 0, 1), -5);
        Checks.due("13: j below", house.copy(0, 1, 0, -1, 1), -5);
        Checks.due("13: beyond", house.copy(0, 1, 4, 0, 2), -5);
        Checks.due("13: beyond the goal", house.copy(0, 1, 0, 2, 2), -5);
        Checks.due("13: far beyond", house.copy(0, 1, 1, 1, Integer.MAX_VALUE), -5);
        Checks.due("13: i far beyond", house.copy(0, 1, Integer.MAX_VALUE, 0, 1), -5);
        for (int i = 0; i < 5; i++) {
            Checks.due("13: nothing changed", house.element(0, i), down[i]);
        }
        Checks.due("13: refusals", house.status(15), 8);
    }

    private static void promise14Element() {
        CollegeHouse house = new CollegeHouse();
        Checks.put(house, 0, 7, 8);
        house.person(5);
        house.show(1, 0);
        Checks.due("14: first", house.element(0, 0), 7);
        Checks.due("14: last", house.element(0, 1), 8);
        Checks.due("14: beyond", house.element(0, 2), 0);
        Checks.due("14: below", house.element(0, -1), 0);
        Checks.due("14: no shelf", house.element(10, 0), 0);
        Checks.due("14: no shelf below", house.element(-1, 0), 0);
        Checks.due("14: nothing", house.element(2, 0), 0);
        Checks.due("14: one of people", house.element(1, 0), 0);
        house.show(0, 0);
        Checks.due("14: no row any more", house.element(0, 0), 0);
        for (int what = 11; what <= 17; what++) {
            Checks.due("14: nothing is refused", house.status(what), 0);
        }
    }

    private static void promise15And16ShowAndHolds() {
        CollegeHouse house = new CollegeHouse();
        house.person(0);
        house.person(0);
        Checks.due("15: no shelf", house.show(10, 0), -1);
        Checks.due("15: no shelf for none", house.show(-1, -1), -1);
        Checks.due("15: nobody", house.show(0, 2), -1);
        Checks.due("15: nobody below", house.show(0, -2), -1);
        Checks.due("15: one", house.show(0, 1), 1);
        Checks.due("16: it holds it", house.holds(0), 1);
        Checks.due("15: none", house.show(0, -1), 0);
        Checks.due("16: it holds nothing", house.holds(0), -1);
        house.row(0, 2, 3);
        Checks.due("16: ints", house.holds(0), 102);
        Checks.due("15: in place of a row", house.show(0, 0), 1);
        Checks.due("16: number 0", house.holds(0), 0);
        house.row(0, 0, 0);
        Checks.due("16: bytes", house.holds(0), 100);
        Checks.due("15: a row goes", house.show(0, -1), 0);
        Checks.due("16: nothing", house.holds(0), -1);
        Checks.due("16: no shelf", house.holds(10), -1);
        Checks.due("16: no shelf below", house.holds(-1), -1);
        Checks.due("15: refusals", house.status(11), 4);
    }

    private static void promise17BornIn() {
        CollegeHouse house = new CollegeHouse();
        house.person(-77);
        house.show(0, 0);
        house.row(1, 0, 1);
        Checks.due("17: born", house.bornIn(0), -77);
        Checks.due("17: no shelf", house.bornIn(10), -1_000_001);
        Checks.due("17: no shelf below", house.bornIn(-1), -1_000_001);
        Checks.due("17: a row", house.bornIn(1), -1_000_002);
        Checks.due("17: nothing", house.bornIn(2), -1_000_003);
        Checks.due("17: counted as -1", house.status(11), 2);
        Checks.due("17: counted as -2", house.status(12), 1);
        Checks.due("17: counted as -3", house.status(13), 1);
    }

    public static void main(String[] args) {
        promise11Row();
        promise12Set();
        promise13Copy();
        promise14Element();
        promise15And16ShowAndHolds();
        promise17BornIn();
        Checks.end();
    }
}
