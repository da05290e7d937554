/** Promises 54 to 59: rooms by choice and by exchange, and status. */
public final class RoomsTest {
    private static void promise54Room() {
        CollegeHouse house = new CollegeHouse();
        for (int r = 0; r < 9; r++) {
            Checks.due("54: a room", house.room(), r);
        }
        Checks.due("54: too many", house.room(), -7);
        Checks.due("54: how many", house.status(10), 9);
    }

    private static void wish(CollegeHouse house, int who, long... order) {
        Checks.put(house, 9, order);
        Checks.due("55: wish", house.wish(who, 9), order.length);
    }

    /** Fellows 0 to n - 1 at places of their numbers, come on day 0. */
    private static CollegeHouse fellows(int n, int rooms) {
        CollegeHouse house = new CollegeHouse();
        for (int who = 0; who < n; who++) {
            house.person(-9000);
            house.fact(who, 1, 1, -9);
            house.place(1);
            Checks.due("hold", house.hold(who, who), 1);
        }
        for (int r = 0; r < rooms; r++) {
            house.room();
        }
        return house;
    }

    private static void promise55Wish() {
        CollegeHouse house = fellows(2, 3);
        house.show(1, 0);
        Checks.put(house, 0, 9, -1, 2, 2, 0);
        Checks.due("55: nobody", house.wish(2, 0), -1);
        Checks.due("55: nobody ahead of people", house.wish(-1, 1), -1);
        Checks.due("55: no shelf", house.wish(0, 10), -1);
        Checks.due("55: one of people", house.wish(0, 1), -2);
        Checks.due("55: nothing", house.wish(0, 2), -3);
        Checks.due("55: all elements", house.wish(0, 0), 5);
        house.set(0, 2, 1);
        house.choose();
        Checks.due("55: as it was then, but for what is no room", house.roomOf(0), 2);
        house.row(0, 0, 0);
        Checks.due("55: an empty one", house.wish(0, 0), 0);
        house.choose();
        Checks.due("55: is for no room", house.roomOf(0), -1);
    }

    private static void promise56Choose() {
        CollegeHouse house = fellows(4, 4);
        house.leave(0);
        house.days(2);
        house.hold(0, 0);
        wish(house, 0, 1, 2);
        wish(house, 1, 1, 0);
        wish(house, 2, 1, 3, 0);
        Checks.due("56: who took one", house.choose(), 3);
        Checks.due("56: by seniority, the lesser number", house.roomOf(1), 1);
        Checks.due("56: the next", house.roomOf(2), 3);
        Checks.due("56: the last come", house.roomOf(0), 2);
        Checks.due("56: no wish", house.roomOf(3), -1);
        house.leave(1);
        Checks.due("56: who left keeps its room, the others choose again", house.choose(), 2);
        Checks.due("56: keeps", house.roomOf(1), 1);
        wish(house, 0, 1);
        wish(house, 3, 2, 3);
        Checks.due("56: what others have is not there", house.choose(), 2);
        Checks.due("56: none of those", house.roomOf(0), -1);
        Checks.due("56: given up, and taken again", house.roomOf(2), 3);
        Checks.due("56: its first is free now", house.roomOf(3), 2);
        wish(house, 2, 8, 4);
        Checks.due("56: rooms that are not there", house.choose(), 1);
        Checks.due("56: so none", house.roomOf(2), -1);
        Checks.due("56: nobody chooses", new CollegeHouse().choose(), 0);
        CollegeHouse other = fellows(2, 2);
        wish(other, 0, 1);
        wish(other, 1, 1);
        other.choose();
        other.leave(0);
        Checks.due("56: number 0 keeps its room too", other.choose(), 0);
        Checks.due("56: it does", other.roomOf(0), 1);
        Checks.due("56: the other has none", other.roomOf(1), -1);
    }

    private static void promise57Exchange() {
        CollegeHouse house = fellows(6, 7);
        for (int who = 0; who < 6; who++) {
            wish(house, who, who);
        }
        house.choose();
        wish(house, 0, 1, 0);
        wish(house, 1, 2);
        wish(house, 2, 0);
        wish(house, 3, 0, 4);
        wish(house, 4, 2, 6, 3);
        wish(house, 5);
        // 0, 1, 2 are a ring; when they are gone 3 and 4 are one; 5 points at itself; room 6 has nobody
        Checks.due("57: five have another", house.exchange(), 5);
        int[] rooms = {1, 2, 0, 4, 3, 5};
        for (int who = 0; who < 6; who++) {
            Checks.due("57: room of " + who, house.roomOf(who), rooms[who]);
        }
        Checks.due("57: all have what they can", house.exchange(), 0);
        wish(house, 0, 1, 2);
        wish(house, 1, 1);
        Checks.due("57: who has its first keeps it", house.exchange(), 0);
        wish(house, 0, 0);
        wish(house, 2, 5, 1);
        wish(house, 5, 2, 0);
        // 0 (in 1) wants 0 of 2; 2 wants 5 of 5; 5 wants 2 of 1, who goes first with 1 wanted of 0
        Checks.due("57: a ring of four", house.exchange(), 4);
        int[] last = {0, 1, 5, 4, 3, 2};
        for (int who = 0; who < 6; who++) {
            Checks.due("57: now room of " + who, house.roomOf(who), last[who]);
        }
        Checks.due("57: nobody", new CollegeHouse().exchange(), 0);
        house.leave(0);
        house.leave(1);
        wish(house, 0, 1);
        wish(house, 1, 0);
        Checks.due("57: all who have rooms, fellows or not", house.exchange(), 2);
    }

    private static void promise57NineRooms() {
        CollegeHouse house = fellows(9, 9);
        for (int who = 0; who < 9; who++) {
            wish(house, who, who);
        }
        house.choose();
        for (int who = 0; who < 9; who++) {
            wish(house, who);
        }
        Checks.due("57: nobody wishes", house.exchange(), 0);
        for (int who = 0; who < 8; who++) {
            wish(house, who, who + 1);
        }
        Checks.due("57: a way to the last, who stays, and so do all", house.exchange(), 0);
        for (int who = 0; who < 9; who++) {
            Checks.due("57: still room of " + who, house.roomOf(who), who);
        }
        wish(house, 8, 7);
        wish(house, 6, 7, 5);
        Checks.due("57: two rings at the end of the way", house.exchange(), 4);
        int[] rooms = {0, 1, 2, 3, 4, 6, 5, 8, 7};
        for (int who = 0; who < 9; who++) {
            Checks.due("57: then room of " + who, house.roomOf(who), rooms[who]);
            wish(house, who, (house.roomOf(who) + 1) % 9);
        }
        Checks.due("57: a ring of nine", house.exchange(), 9);
        for (int who = 0; who < 9; who++) {
            Checks.due("57: one on " + who, house.roomOf(who), (rooms[who] + 1) % 9);
        }
    }

    /** The last room is left over alone, behind a ring of the first and the last but one. */
    private static void promise57LastRoom() {
        CollegeHouse house = fellows(9, 9);
        for (int who = 0; who < 9; who++) {
            wish(house, who, who);
        }
        house.choose();
        wish(house, 0, 7);
        wish(house, 7, 0);
        wish(house, 8);
        Checks.due("57: two of nine", house.exchange(), 2);
        int[] rooms = {7, 1, 2, 3, 4, 5, 6, 0, 8};
        for (int who = 0; who < 9; who++) {
            Checks.due("57: room of " + who, house.roomOf(who), rooms[who]);
        }
    }

    /** Room 0, that nobody has, isn't there to point at. */
    private static void promise57EmptyRoom() {
        CollegeHouse house = fellows(3, 4);
        wish(house, 0, 3);
        wish(house, 1, 1);
        wish(house, 2, 2);
        house.choose();
        wish(house, 0, 0, 2);
        wish(house, 2, 0, 3);
        Checks.due("57: around the empty room", house.exchange(), 2);
        Checks.due("57: 0 has that of 2", house.roomOf(0), 2);
        Checks.due("57: 2 has that of 0", house.roomOf(2), 3);
        Checks.due("57: 1 has its own", house.roomOf(1), 1);
    }

    private static void promise58RoomOf() {
        CollegeHouse house = fellows(1, 1);
        Checks.due("58: none yet", house.roomOf(0), -1);
        wish(house, 0, 0);
        house.choose();
        Checks.due("58: its room", house.roomOf(0), 0);
        Checks.due("58: nobody", house.roomOf(1), -1);
        Checks.due("58: nobody below", house.roomOf(-1), -1);
    }

    private static void promise59Status() {
        CollegeHouse house = fellows(3, 2);
        house.fact(0, 0, 1, 0);
        house.place(2);
        house.lease(1, 1, 1, 1, 1, 1);
        house.price(1, 1, 1);
        house.price(1, 2, 1);
        house.other(55);
        house.other(-5);
        house.days(8);
        Checks.write(house, 0, "w");
        house.amend(0, 0, 0, 0);
        wish(house, 0);
        house.ballot(0, 9);
        house.ballot(1, 9);
        house.place(0);
        house.elect(4, 7);
        int[] want = {3, 4, 1, 5, 4, 1, 2, 2, 8, 50, 2};
        for (int what = 0; what < want.length; what++) {
            Checks.due("59: status " + what, house.status(what), want[what]);
        }
        Checks.due("59: rounds", house.status(18), 2);
        house.show(8, 0);
        house.hold(9, 0);
        house.set(8, 0, 0);
        house.set(8, 0, 0);
        house.set(7, 0, 0);
        house.set(7, 0, 0);
        house.set(7, 0, 0);
        house.row(0, 0, -1);
        house.row(0, 0, -2);
        house.row(0, 0, -3);
        house.row(0, 0, -4);
        for (int i = 0; i < 5; i++) {
            house.set(9, 80, 0);
        }
        for (int i = 0; i < 6; i++) {
            house.days(0);
        }
        for (int i = 0; i < 7; i++) {
            house.row(0, 0, 81);
        }
        for (int i = 1; i <= 7; i++) {
            Checks.due("59: refusals -" + i, house.status(10 + i), i);
        }
        Checks.due("59: another what", house.status(19), -1);
        Checks.due("59: another what below", house.status(-1), -1);
        Checks.due("59: far off", house.status(Integer.MAX_VALUE), -1);
        Checks.due("59: far below", house.status(Integer.MIN_VALUE), -1);
    }

    public static void main(String[] args) {
        promise54Room();
        promise55Wish();
        promise56Choose();
        promise57Exchange();
        promise57NineRooms();
        promise57LastRoom();
        promise57EmptyRoom();
        promise58RoomOf();
        promise59Status();
        Checks.end();
    }
}
