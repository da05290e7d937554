import java.util.ArrayList;
import java.util.List;

/**
 * A house with something of everything, made the same each time, and all that can be seen of it: two of them tell
 * whether a call has changed anything. Making, one call and looking stay below the 512 calls of an object.
 */
final class BusyHouse {
    /** A row of ints, one of people, nothing, "w", an empty row of longs, "!w", a row of shorts, 10,001 as an int. */
    static final int INTS = 0;
    static final int PERSON = 1;
    static final int NOTHING = 2;
    static final int LETTER = 3;
    static final int EMPTY = 4;
    static final int LETTERS = 5;
    static final int SHORTS = 6;
    static final int TOO_MUCH = 7;
    static final int PEOPLE = 8;

    private BusyHouse() { }

    static CollegeHouse make() {
        CollegeHouse house = new CollegeHouse();
        for (int who = 0; who < PEOPLE; who++) {
            house.person(-9000 + 100 * who);
            house.fact(who, 1, 1, -100);
        }
        house.fact(0, 0, 7, 5);
        house.fact(0, 2, 30, 6);
        house.fact(0, 3, 2, 7);
        house.fact(7, 1, 0, 20);
        house.founder(0);
        house.link(1, 0, 0);
        house.link(2, 1, 1);
        house.days(100);
        house.death(6, 50);
        fillShelves(house);
        makePlaces(house);
        makeLands(house);
        makeRooms(house);
        house.days(10);
        return house;
    }

    private static void fillShelves(CollegeHouse house) {
        Checks.put(house, INTS, 2, 3, 9);
        house.show(PERSON, 2);
        Checks.write(house, LETTER, "w");
        house.row(EMPTY, 3, 0);
        Checks.write(house, LETTERS, "!w");
        Checks.putSort(house, SHORTS, 1, 3, 2);
        Checks.put(house, TOO_MUCH, 0, 10001);
        house.statute(0, LETTER);
        house.amend(1, LETTER, LETTERS, 30000);
        house.amend(2, LETTERS, LETTER, 0);
    }

    /** Places 0, 1 and 5 are fellows', 2 an office's, 3 and 6 livings', 4 a scholar's. */
    private static void makePlaces(CollegeHouse house) {
        int[] kinds = {1, 1, 2, 3, 0, 1, 3};
        for (int kind : kinds) {
            house.place(kind);
        }
        house.hold(0, 0);
        house.hold(1, 1);
        house.hold(2, 2);
        house.hold(3, 6);
        house.ballot(0, INTS);
        house.ballot(1, INTS);
        house.elect(4, 0b1100);
        house.answer(3, false);
    }

    private static void makeLands(CollegeHouse house) {
        house.lease(100, 10, 20, 5, 2, 2);
        house.lease(60, 6, 10, 5, 3, 0);
        house.lives(200, 7, 30, 9, 0b1000001);
        house.price(0, 5, 30);
        house.price(0, 9, 20);
        Checks.put(house, 8, 0, 50, 100);
        house.table(8);
        house.renew(1);
        house.other(500);
        house.kept(0, 100);
        house.kept(1, 21);
        house.dividend(50);
        house.rents();
        house.roof(10, 5);
        house.plan(3, 0, 0);
    }

    private static void makeRooms(CollegeHouse house) {
        for (int r = 0; r < 3; r++) {
            house.room();
        }
        Checks.put(house, 9, 1, 0);
        house.wish(0, 9);
        house.wish(1, 9);
        house.choose();
    }

    /** How many of each number are refused. */
    static long[] refusals(CollegeHouse house) {
        long[] counts = new long[8];
        for (int number = 1; number <= 7; number++) {
            counts[number] = house.status(10 + number);
        }
        return counts;
    }

    /** The counts of status() but for refusals. */
    static List<Long> counts(CollegeHouse house) {
        List<Long> seen = new ArrayList<>();
        for (int what = 0; what <= 10; what++) {
            seen.add((long) house.status(what));
        }
        seen.add((long) house.status(18));
        return seen;
    }

    /** All that the asking calls tell, then what calls answer whose answers hang on what can't be asked. */
    static List<Long> all(CollegeHouse house) {
        List<Long> seen = counts(house);
        seeShelves(house, seen);
        seePeople(house, seen);
        seePlaces(house, seen);
        seeLands(house, seen);
        seeHidden(house, seen);
        return seen;
    }

    private static void seeShelves(CollegeHouse house, List<Long> seen) {
        for (int s = 0; s < 10; s++) {
            seen.add((long) house.holds(s));
            seen.add(house.element(s, 0));
            seen.add(house.element(s, 1));
        }
        for (int which = 0; which < 4; which++) {
            seen.add((long) house.words(which, 40000, 110, -1));
            seen.add((long) house.words(which, 40000, 110, 0));
        }
        seen.add((long) house.gone(0, 30000, 100));
        seen.add((long) house.gone(1, 30000, 100));
    }

    private static void seePeople(CollegeHouse house, List<Long> seen) {
        for (int who = 0; who < PEOPLE; who++) {
            for (int sort = 0; sort < 4; sort++) {
                seen.add((long) house.is(who, sort, 110, 110));
            }
            seen.add((long) house.kin(who, false, 110));
            seen.add((long) house.may(who, 1, 110, 110));
            seen.add((long) house.got(who));
            seen.add((long) house.roomOf(who));
        }
        seen.add((long) house.settles(1));
        seen.add((long) house.settles(2));
    }

    private static void seePlaces(CollegeHouse house, List<Long> seen) {
        for (int place = 0; place < 7; place++) {
            for (int what = 0; what < 4; what++) {
                seen.add((long) house.about(place, what));
            }
        }
        seen.add((long) house.asked(3));
        for (int who = 0; who < 4; who++) {
            seen.add((long) house.votes(0, who));
            seen.add((long) house.without(who));
        }
    }

    private static void seeLands(CollegeHouse house, List<Long> seen) {
        for (int i = 0; i < 3; i++) {
            seen.add((long) house.ends(i));
            seen.add((long) house.rent(i, 0));
            seen.add((long) house.rent(i, 1));
            seen.add((long) house.planned(i));
        }
        for (int head = 0; head < 4; head++) {
            seen.add((long) house.head(head, 0));
        }
    }

    private static void seeHidden(CollegeHouse house, List<Long> seen) {
        seen.add((long) house.kept(0, 1));
        seen.add((long) house.kept(1, 1));
        seen.add((long) house.rents());
        seen.add((long) house.dividend(0));
        seen.add((long) house.leave(4));
        seen.add((long) house.elect(4, 0b1110));
        for (int who = 1; who < 4; who++) {
            seen.add((long) house.votes(0, who));
        }
        seen.add((long) house.renew(0));
        seen.add((long) house.plan(3, 0, 0));
        seen.add((long) house.choose());
        seen.add((long) house.exchange());
        seen.add((long) house.roomOf(0));
        seen.add((long) house.roomOf(1));
        seen.add((long) house.grace(30));
        seen.add((long) house.price(0, 6, 1));
        seen.add((long) house.roof(1, 1));
        seen.add((long) house.roof(1, 1));
        seen.add((long) house.answer(3, true));
        seen.add((long) house.days(30));
        seen.addAll(counts(house));
    }
}
