/**
 * Promises 54 to 59 at their edges, sentence by sentence: each method bears the promise's number, and each check the
 * words of the document that it holds. What is refused stands in RefusalsTest.
 */
public final class EdgesOfRoomsTest {
    private static CollegeHouse fellows(int n, int people, int rooms) {
        CollegeHouse house = new CollegeHouse();
        for (int who = 0; who < people; who++) {
            house.person(-9000);
            house.fact(who, 1, 1, -9);
        }
        for (int who = 0; who < n; who++) {
            house.place(1);
            Checks.due("27: hold", house.hold(who, who), 1);
        }
        for (int r = 0; r < rooms; r++) {
            house.room();
        }
        return house;
    }

    private static void wish(CollegeHouse house, int who, long... order) {
        Checks.put(house, 9, order);
        Checks.due("55: how many elements", house.wish(who, 9), order.length);
    }

    private static void rooms(String what, CollegeHouse house, int... rooms) {
        for (int who = 0; who < rooms.length; who++) {
            Checks.due(what + ": the ROOM of " + who, house.roomOf(who), rooms[who]);
        }
    }

    private static void promise54Nine() {
        CollegeHouse house = new CollegeHouse();
        Checks.due("59: no ROOMS at first", house.status(10), 0);
        for (int r = 0; r < 9; r++) {
            Checks.due("54: its number", house.room(), r);
            Checks.due("59: how many ROOMS", house.status(10), r + 1);
        }
        Checks.due("54: 9 at most", house.room(), -7);
        Checks.due("59: 9 ROOMS", house.status(10), 9);
    }

    private static void promise55AsItIsNow() {
        CollegeHouse house = fellows(1, 1, 2);
        Checks.put(house, 0, 1, 0);
        Checks.due("55: how many elements", house.wish(0, 0), 2);
        house.set(0, 0, 0);
        house.choose();
        Checks.due("55: as it was then", house.roomOf(0), 1);
        house.row(0, 3, 80);
        Checks.due("55: 80 elements", house.wish(0, 0), 80);
        house.choose();
        Checks.due("55: a new WISH takes the old one's place", house.roomOf(0), 0);
        house.row(0, 0, 0);
        Checks.due("55: no elements", house.wish(0, 0), 0);
        Checks.due("56: none of those: none", house.choose(), 0);
        Checks.due("58: NONE", house.roomOf(0), -1);
        Checks.putSort(house, 0, 3, (1L << 32) + 1);
        house.wish(0, 0);
        house.choose();
        Checks.due("55: elements as ints", house.roomOf(0), 1);
    }

    /** Elements that are no rooms don't count, and spoil no other wish. */
    private static void promise55NoRooms() {
        CollegeHouse house = fellows(2, 24, 9);
        wish(house, 1, 7);
        wish(house, 0, -1, 9, 10, 32, 31, 63, -32, 1L << 31, 8, 7, 6, 5, 4, 3, 2, 1, 0, -1);
        Checks.due("56: two took one", house.choose(), 2);
        rooms("55: the first that is a ROOM", house, 8, 7);
        wish(house, 0, 9, -5, 80);
        Checks.due("55: how many elements: all of them", house.wish(0, 9), 3);
        Checks.due("56: none that is a ROOM", house.choose(), 1);
        rooms("55: don't count", house, -1, 7);
        wish(house, 0, 9, -5, 7, 3);
        wish(house, 1, -1, 100, 4);
        house.choose();
        rooms("55: the next counts", house, 7, 4);
        Checks.due("57: and points at nobody", house.exchange(), 0);
    }

    private static void promise55WhoeverWishes() {
        CollegeHouse house = fellows(0, 24, 1);
        Checks.put(house, 0, 0);
        Checks.due("55: the last one, no FELLOW", house.wish(23, 0), 1);
        Checks.due("56: nobody chooses", house.choose(), 0);
        house.place(1);
        house.hold(23, 0);
        Checks.due("56: now it does", house.choose(), 1);
        Checks.due("58: the last one's ROOM", house.roomOf(23), 0);
        Checks.due("58: no such one", house.roomOf(24), -1);
    }

    private static void promise56BySeniority() {
        CollegeHouse house = fellows(4, 4, 9);
        for (int p = 0; p < 4; p++) {
            house.leave(p);
        }
        house.hold(3, 2);
        house.days(1);
        house.hold(1, 0);
        house.hold(0, 3);
        house.days(1);
        house.hold(2, 1);
        for (int who = 0; who < 4; who++) {
            wish(house, who, 5, 6, 8);
        }
        Checks.due("56: three took one, the last has none of those", house.choose(), 3);
        rooms("56: by SENIORITY, of like ones by numbers, not by PLACES", house, 6, 8, -1, 5);
        wish(house, 3, 8, 5);
        Checks.due("56: those who choose give theirs up first", house.choose(), 3);
        rooms("56: the first takes another's", house, 5, 6, -1, 8);
        wish(house, 3);
        Checks.due("56: who has none of those: none", house.choose(), 3);
        rooms("56: and its ROOM is there for others", house, 5, 6, 8, -1);
    }

    private static void promise56RoomsThatOthersHave() {
        CollegeHouse house = fellows(2, 3, 2);
        wish(house, 0, 0);
        wish(house, 1, 1);
        wish(house, 2, 0, 1);
        house.choose();
        house.leave(0);
        house.hold(2, 0);
        Checks.due("56: ROOM 0 is had by one who is no FELLOW now", house.choose(), 1);
        rooms("56: not there to take", house, 0, 1, -1);
        house.leave(1);
        wish(house, 1, 1);
        Checks.due("56: nor is ROOM 1", house.choose(), 0);
        rooms("56: who don't choose keep theirs", house, 0, 1, -1);
        house.leave(0);
        house.hold(0, 0);
        wish(house, 0, 1, 0);
        Checks.due("56: its own is there", house.choose(), 1);
        rooms("56: but no other's", house, 0, 1, -1);
        house.room();
        wish(house, 0, 2);
        house.choose();
        rooms("56: a new ROOM", house, 2, 1, -1);
        house.hold(2, 1);
        house.choose();
        rooms("56: one that was given up", house, 2, 1, 0);
    }

    private static void promise56NoRooms() {
        CollegeHouse house = fellows(3, 3, 0);
        for (int who = 0; who < 3; who++) {
            wish(house, who, 0, 1);
        }
        Checks.due("56: no ROOMS", house.choose(), 0);
        Checks.due("57: nobody has one", house.exchange(), 0);
        house.room();
        Checks.due("56: one ROOM, that was wished for ahead of its being there", house.choose(), 1);
        rooms("56: of like ones by numbers", house, 0, -1, -1);
    }

    private static CollegeHouse settled(int n) {
        CollegeHouse house = fellows(n, n, n);
        for (int who = 0; who < n; who++) {
            wish(house, who, who);
        }
        Checks.due("56: each took one", house.choose(), n);
        return house;
    }

    private static void promise57Rings() {
        CollegeHouse house = settled(3);
        Checks.due("57: all have the first of their WISH", house.exchange(), 0);
        wish(house, 0, 1);
        wish(house, 1, 0);
        Checks.due("57: a ring of two", house.exchange(), 2);
        rooms("57: exchanged", house, 1, 0, 2);
        Checks.due("57: none has another ROOM than before", house.exchange(), 0);
        wish(house, 0, 2, 1);
        wish(house, 2, 0);
        wish(house, 1, 1);
        Checks.due("57: a ring of three", house.exchange(), 3);
        rooms("57: all exchanged", house, 2, 1, 0);
        wish(house, 0);
        wish(house, 1, 2);
        wish(house, 2, 2);
        Checks.due("57: its own, if none: nobody gets it", house.exchange(), 0);
        rooms("57: stays", house, 2, 1, 0);
    }

    /** Rings go, and who pointed at one that is gone points at the next still there. */
    private static void promise57TillNobodyIsLeft() {
        CollegeHouse house = settled(5);
        wish(house, 0, 1, 2, 0);
        wish(house, 1, 1);
        wish(house, 2, 1, 0);
        wish(house, 3, 0, 2, 4);
        wish(house, 4, 0, 3);
        // 1 goes alone; then 0 and 2; then 3 and 4
        Checks.due("57: three rings", house.exchange(), 4);
        rooms("57: among ROOMS still there", house, 2, 1, 0, 4, 3);
        wish(house, 0, 4, 3, 2);
        wish(house, 3, 4);
        wish(house, 4, 2);
        wish(house, 2, 0);
        // 0 in 2, 3 in 4 (its first), 4 in 3, 2 in 0: 3 goes, 2 goes, 1 goes; then 0 and 4
        Checks.due("57: the first still there is the second of its WISH", house.exchange(), 2);
        rooms("57: then", house, 3, 1, 0, 4, 2);
    }

    private static void promise57RoomsOfNobody() {
        CollegeHouse house = fellows(3, 3, 9);
        wish(house, 0, 8);
        wish(house, 1, 0);
        house.choose();
        rooms("56: 2 has none", house, 8, 0, -1);
        wish(house, 0, 4, 5, 0);
        wish(house, 1, 7, 8);
        wish(house, 2, 0, 8);
        Checks.due("57: ROOMS that nobody has are not there to point at", house.exchange(), 2);
        rooms("57: all who have ROOMS", house, 0, 8, -1);
        Checks.due("58: who has none has none still", house.roomOf(2), -1);
    }

    private static void promise57Nine() {
        CollegeHouse house = settled(9);
        for (int who = 0; who < 9; who++) {
            wish(house, who, 8 - who);
        }
        Checks.due("57: four rings of two, and 4 alone", house.exchange(), 8);
        rooms("57: the other end", house, 8, 7, 6, 5, 4, 3, 2, 1, 0);
        for (int who = 0; who < 9; who++) {
            wish(house, who, (8 - who + 1) % 9);
        }
        Checks.due("57: a ring of nine", house.exchange(), 9);
        rooms("57: all one on", house, 0, 8, 7, 6, 5, 4, 3, 2, 1);
    }

    /** Nobody but the one at the end of the way gets what it wants at once: nine rounds. */
    private static void promise57OneByOne() {
        CollegeHouse house = settled(9);
        for (int who = 0; who < 9; who++) {
            wish(house, who, 8, 7, 6, 5, 4, 3, 2, 1, 0);
        }
        Checks.due("57: each keeps its own", house.exchange(), 0);
        rooms("57: its own", house, 0, 1, 2, 3, 4, 5, 6, 7, 8);
    }

    private static void promise58None() {
        CollegeHouse house = fellows(1, 2, 9);
        Checks.due("58: nobody has one at first", house.roomOf(0), -1);
        wish(house, 0, 8);
        house.choose();
        Checks.due("58: the last ROOM", house.roomOf(0), 8);
        wish(house, 0, 0);
        house.choose();
        Checks.due("58: ROOM 0", house.roomOf(0), 0);
        Checks.due("58: another has none", house.roomOf(1), -1);
        Checks.due("58: no such one", house.roomOf(2), -1);
        Checks.due("58: the least int", house.roomOf(Integer.MIN_VALUE), -1);
        house.leave(0);
        Checks.due("58: it keeps it when it leaves its PLACE", house.roomOf(0), 0);
        house.days(1);
        house.death(0, 1);
        Checks.due("58: and from DEATH on", house.roomOf(0), 0);
    }

    private static void promise59EachCount() {
        CollegeHouse house = new CollegeHouse();
        int[] due = new int[19];
        counts("at first", house, due);
        house.person(0);
        due[0] = 1;
        counts("PEOPLE", house, due);
        house.fact(0, 1, 1, 0);
        due[1] = 1;
        counts("FACTS", house, due);
        Checks.write(house, 0, "w");
        house.amend(3, 0, 0, 0);
        due[2] = 1;
        counts("AMENDMENTS", house, due);
        house.statute(0, 0);
        counts("a first TEXT is no AMENDMENT", house, due);
        house.place(1);
        house.place(0);
        due[3] = 2;
        counts("PLACES", house, due);
        house.hold(0, 0);
        due[4] = 1;
        counts("PLACES that are held", house, due);
        house.lease(5, 1, 1, 1, 1, 1);
        due[5] = 1;
        counts("LEASES", house, due);
        house.price(1, 1, 1);
        due[6] = 1;
        counts("PRICES", house, due);
        house.other(44);
        due[7] = 1;
        due[9] = 44;
        counts("ENTRIES and THE CHEST", house, due);
        house.days(3);
        due[8] = 3;
        counts("NOW", house, due);
        house.room();
        due[10] = 1;
        counts("ROOMS", house, due);
        house.ballot(0, 0);
        house.elect(1, 1);
        due[4] = 2;
        due[18] = 1;
        counts("ROUNDS of the latest elect()", house, due);
        house.leave(0);
        due[4] = 1;
        counts("PLACES that are held", house, due);
    }

    private static void counts(String what, CollegeHouse house, int[] due) {
        for (int i = 0; i < due.length; i++) {
            Checks.due("59: " + what + ", status " + i, house.status(i), due[i]);
        }
    }

    private static void promise59Refusals() {
        CollegeHouse house = new CollegeHouse();
        house.person(0);
        house.show(1, 0);
        int[] due = new int[8];
        for (int round = 0; round < 3; round++) {
            house.row(10, 0, 0);
            house.set(1, 0, 0);
            house.set(0, 0, 0);
            house.row(0, 0, -1);
            house.row(2, 0, 0);
            house.set(2, 0, 0);
            house.days(0);
            house.row(0, 0, 81);
            for (int number = 1; number <= 7; number++) {
                due[number]++;
                Checks.due("59: how many REFUSALS -" + number, house.status(10 + number), due[number]);
            }
        }
        Checks.due("59: NONE for another what", house.status(19), -1);
        Checks.due("59: NONE for -1", house.status(-1), -1);
        Checks.due("59: the greatest int", house.status(Integer.MAX_VALUE), -1);
        Checks.due("59: the least int", house.status(Integer.MIN_VALUE), -1);
        Checks.due("59: asking is no refusal", house.status(11), 3);
    }

    private static void promise55EightyElements() {
        CollegeHouse house = fellows(5, 5, 9);
        long[] order = new long[80];
        for (int i = 0; i < 80; i++) {
            order[i] = i == 78 ? 8 : i == 79 ? 3 : i % 3;
        }
        for (int who = 0; who < 3; who++) {
            wish(house, who, who);
        }
        wish(house, 3, order);
        wish(house, 4, order);
        Checks.due("56: all took one", house.choose(), 5);
        rooms("56: the last but one of its WISH, and the last", house, 0, 1, 2, 8, 3);
    }

    public static void main(String[] args) {
        promise54Nine();
        promise55AsItIsNow();
        promise55NoRooms();
        promise55EightyElements();
        promise55WhoeverWishes();
        promise56BySeniority();
        promise56RoomsThatOthersHave();
        promise56NoRooms();
        promise57Rings();
        promise57TillNobodyIsLeft();
        promise57RoomsOfNobody();
        promise57Nine();
        promise57OneByOne();
        promise58None();
        promise59EachCount();
        promise59Refusals();
        Checks.end();
    }
}
