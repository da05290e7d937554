/**
 * Promises 11 to 17 at their edges, sentence by sentence: each method bears the promise's number, and each check the
 * words of the document that it holds. What is refused stands in RefusalsTest.
 */
public final class EdgesOfShelvesTest {
    private static void promise11EmptyAndFull() {
        CollegeHouse house = new CollegeHouse();
        for (int sort = 0; sort < 4; sort++) {
            Checks.due("11: a ROW of 0 elements", house.row(0, sort, 0), 1);
            Checks.due("11: holds a ROW of SORT " + sort, house.holds(0), 100 + sort);
            Checks.due("11: of none", house.set(0, 0, 1), -5);
            Checks.due("11: a ROW of 80 elements", house.row(9, sort, 80), 1);
            Checks.due("11: its last", house.set(9, 79, 5), 1);
            Checks.due("11: not one more", house.set(9, 80, 5), -5);
        }
        Checks.due("11: a ROW of 1", house.row(9, 3, 1), 1);
        Checks.due("11: a new ROW, 0 at first", house.element(9, 0), 0);
        house.row(9, 3, 80);
        for (int i = 0; i < 80; i++) {
            Checks.due("11: 0 at first, all of them", house.element(9, i), 0);
        }
    }

    private static void promise11RefusedKeepsTheOldRow() {
        CollegeHouse house = new CollegeHouse();
        Checks.put(house, 4, 11, 12);
        Checks.due("11: n above 80", house.row(4, 0, 81), -7);
        Checks.due("11: nothing changes", house.element(4, 1), 12);
        Checks.due("11: nor its SORT", house.holds(4), 102);
        Checks.due("11: the greatest n", house.row(4, 0, Integer.MAX_VALUE), -7);
        Checks.due("11: the least n", house.row(4, 0, Integer.MIN_VALUE), -4);
    }

    /** What is put in keeps its lowest bits. */
    private static void promise12LowestBits() {
        long[][] edges = {
            {127, 127}, {128, -128}, {255, -1}, {256, 0}, {-128, -128}, {-129, 127},
            {32767, 32767}, {32768, -32768}, {65535, -1}, {65536, 0}, {-32768, -32768}, {-32769, 32767},
            {2147483647L, 2147483647L}, {2147483648L, -2147483648L}, {4294967295L, -1}, {4294967296L, 0},
            {-2147483648L, -2147483648L}, {-2147483649L, 2147483647L},
            {Long.MAX_VALUE, Long.MAX_VALUE}, {Long.MIN_VALUE, Long.MIN_VALUE}, {-1, -1}, {0, 0}, {1, 1},
            {4294967296L, 4294967296L},
        };
        CollegeHouse house = new CollegeHouse();
        for (int sort = 0; sort < 4; sort++) {
            house.row(sort, sort, 3);
        }
        for (int e = 0; e < edges.length; e++) {
            int sort = Math.min(3, e / 6);
            house.set(sort, 1, edges[e][0]);
            Checks.due("12: SORT " + sort + " keeps the lowest bits of " + edges[e][0], house.element(sort, 1),
                edges[e][1]);
        }
        for (int sort = 0; sort < 4; sort++) {
            Checks.due("12: element 0 is another", house.element(sort, 0), 0);
            Checks.due("12: so is element 2", house.element(sort, 2), 0);
        }
    }

    private static void promise12FirstAndLastElement() {
        CollegeHouse house = new CollegeHouse();
        house.row(9, 2, 4);
        Checks.due("12: element 0", house.set(9, 0, 8), 1);
        Checks.due("12: element 3 of 4", house.set(9, 3, 9), 1);
        Checks.due("12: element 4 of 4", house.set(9, 4, 10), -5);
        Checks.due("12: first", house.element(9, 0), 8);
        Checks.due("12: last", house.element(9, 3), 9);
    }

    private static void promise13NoneAndAll() {
        CollegeHouse house = new CollegeHouse();
        Checks.put(house, 0, 1, 2, 3);
        Checks.put(house, 9, 7, 8, 9);
        Checks.due("13: none, from the beginning", house.copy(0, 9, 0, 0, 0), 1);
        Checks.due("13: none, from behind the last", house.copy(0, 9, 3, 3, 0), 1);
        Checks.due("13: none, from one more", house.copy(0, 9, 4, 3, 0), -5);
        Checks.due("13: none, to one more", house.copy(0, 9, 3, 4, 0), -5);
        Checks.due("13: nothing came", house.element(9, 0), 7);
        Checks.due("13: all", house.copy(0, 9, 0, 0, 3), 1);
        Checks.due("13: the first", house.element(9, 0), 1);
        Checks.due("13: the last", house.element(9, 2), 3);
        Checks.due("13: the last of p to the first of q", house.copy(0, 9, 2, 0, 1), 1);
        Checks.due("13: it came", house.element(9, 0), 3);
        Checks.due("13: the first of p to the last of q", house.copy(0, 9, 0, 2, 1), 1);
        Checks.due("13: it came", house.element(9, 2), 1);
        Checks.due("13: p stays", house.element(0, 2), 3);
        Checks.due("13: one more than p has", house.copy(0, 9, 1, 0, 3), -5);
        Checks.due("13: one more than q has", house.copy(0, 9, 0, 1, 3), -5);
        house.row(5, 2, 0);
        Checks.due("13: none of none", house.copy(5, 5, 0, 0, 0), 1);
        Checks.due("13: none of none to some", house.copy(5, 0, 0, 3, 0), 1);
        Checks.due("13: one of none", house.copy(5, 0, 0, 0, 1), -5);
    }

    private static void promise13AsTheyWereAhead() {
        CollegeHouse house = new CollegeHouse();
        for (int sort = 0; sort < 4; sort++) {
            Checks.putSort(house, 0, sort, 1, 2, 3, 4);
            Checks.due("13: of one ROW, upwards", house.copy(0, 0, 0, 1, 3), 1);
            long[] up = {1, 1, 2, 3};
            for (int i = 0; i < 4; i++) {
                Checks.due("13: as they were ahead", house.element(0, i), up[i]);
            }
            Checks.putSort(house, 0, sort, 1, 2, 3, 4);
            Checks.due("13: of one ROW, downwards", house.copy(0, 0, 1, 0, 3), 1);
            long[] down = {2, 3, 4, 4};
            for (int i = 0; i < 4; i++) {
                Checks.due("13: as they were ahead", house.element(0, i), down[i]);
            }
            Checks.due("13: onto itself", house.copy(0, 0, 0, 0, 4), 1);
            Checks.due("13: as they were", house.element(0, 2), 4);
        }
    }

    private static void promise13ofEachSort() {
        CollegeHouse house = new CollegeHouse();
        for (int sort = 0; sort < 4; sort++) {
            Checks.putSort(house, sort, sort, -1);
        }
        for (int p = 0; p < 4; p++) {
            for (int q = 0; q < 4; q++) {
                Checks.due("13: SORT " + p + " to SORT " + q, house.copy(p, q, 0, 0, 1), p == q ? 1 : -2);
            }
        }
    }

    private static void promise14NoneIs0() {
        CollegeHouse house = new CollegeHouse();
        Checks.putSort(house, 0, 3, Long.MIN_VALUE, Long.MAX_VALUE);
        Checks.due("14: the least long", house.element(0, 0), Long.MIN_VALUE);
        Checks.due("14: the greatest long", house.element(0, 1), Long.MAX_VALUE);
        Checks.due("14: 0 if there is none", house.element(0, 2), 0);
        Checks.due("14: the greatest i", house.element(0, Integer.MAX_VALUE), 0);
        Checks.due("14: the least i", house.element(0, Integer.MIN_VALUE), 0);
        Checks.due("14: the greatest s", house.element(Integer.MAX_VALUE, 0), 0);
        Checks.due("14: the least s", house.element(Integer.MIN_VALUE, 0), 0);
        house.row(0, 3, 1);
        Checks.due("14: what was there in a longer ROW is gone", house.element(0, 1), 0);
        house.row(0, 3, 2);
        Checks.due("14: and doesn't come back", house.element(0, 1), 0);
        for (int what = 11; what <= 17; what++) {
            Checks.due("14: nothing is refused", house.status(what), 0);
        }
    }

    private static void promise15And16OneOfPeopleOrNothing() {
        CollegeHouse house = new CollegeHouse();
        Checks.due("15: nobody is there", house.show(0, 0), -1);
        for (int who = 0; who < 24; who++) {
            house.person(who);
        }
        Checks.due("15: SHELF 9 and the last one", house.show(9, 23), 1);
        Checks.due("16: the number", house.holds(9), 23);
        Checks.due("15: SHELF 0 and the first one", house.show(0, 0), 1);
        Checks.due("16: number 0", house.holds(0), 0);
        Checks.due("15: nobody of number 24", house.show(0, 24), -1);
        Checks.due("15: nothing changes", house.holds(0), 0);
        Checks.due("15: NOTHING on what holds NOTHING", house.show(5, -1), 0);
        Checks.due("16: NONE", house.holds(5), -1);
        Checks.due("15: a lesser number than NONE", house.show(9, -2), -1);
        Checks.due("15: nothing changes", house.holds(9), 23);
        Checks.due("16: the greatest s", house.holds(Integer.MAX_VALUE), -1);
        Checks.due("16: the least s", house.holds(Integer.MIN_VALUE), -1);
        Checks.due("16: nothing is refused by asking", house.status(11), 3);
    }

    private static void promise17Born() {
        CollegeHouse house = new CollegeHouse();
        house.person(-40000);
        house.person(40000);
        house.show(0, 0);
        house.show(9, 1);
        Checks.due("17: the least BORN", house.bornIn(0), -40000);
        Checks.due("17: the greatest BORN", house.bornIn(9), 40000);
        Checks.due("17: NOTHING", house.bornIn(8), -1_000_003);
        house.show(9, -1);
        Checks.due("17: NOTHING any more", house.bornIn(9), -1_000_003);
        house.row(9, 2, 0);
        Checks.due("17: OTHER", house.bornIn(9), -1_000_002);
        Checks.due("17: no such SHELF", house.bornIn(10), -1_000_001);
        Checks.due("17: counted as -1", house.status(11), 1);
        Checks.due("17: counted as -2", house.status(12), 1);
        Checks.due("17: counted as -3", house.status(13), 2);
    }

    public static void main(String[] args) {
        promise11EmptyAndFull();
        promise11RefusedKeepsTheOldRow();
        promise12LowestBits();
        promise12FirstAndLastElement();
        promise13NoneAndAll();
        promise13AsTheyWereAhead();
        promise13ofEachSort();
        promise14NoneIs0();
        promise15And16OneOfPeopleOrNothing();
        promise17Born();
        Checks.end();
    }
}
