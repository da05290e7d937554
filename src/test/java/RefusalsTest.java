import java.util.List;

/**
 * REFUSALS: each refused call answers its number, which is counted, and changes nothing else; of several reasons the
 * first counts, in the order -1 to -7. Each is held against a twin, on which the call was not made.
 */
public final class RefusalsTest {
    private interface Call {
        long on(CollegeHouse house);
    }

    private interface Maker {
        CollegeHouse make();
    }

    /** The call is refused with its number on a busy house. */
    private static void refused(int promise, String why, Call call, long number) {
        refusedOn(promise, why, BusyHouse::make, true, call, number, number);
    }

    private static void refusedOn(int promise, String why, Maker maker, boolean sees, Call call, long answer,
            long number) {
        String name = promise + ": " + why;
        CollegeHouse house = maker.make();
        CollegeHouse twin = maker.make();
        Checks.due(name, call.on(house), answer);
        long[] got = BusyHouse.refusals(house);
        long[] due = BusyHouse.refusals(twin);
        if (number != 0) {
            due[(int) -number]++;
        }
        for (int i = 1; i <= 7; i++) {
            Checks.due(name + ", refusals -" + i, got[i], due[i]);
        }
        List<Long> seen = sees ? BusyHouse.all(house) : BusyHouse.counts(house);
        List<Long> seenOfTwin = sees ? BusyHouse.all(twin) : BusyHouse.counts(twin);
        for (int i = 0; i < seen.size(); i++) {
            Checks.due(name + ", nothing changes (" + i + ")", seen.get(i), seenOfTwin.get(i));
        }
    }

    /** A full house: only its counts are looked at, as its making takes most of its calls. */
    private static void refusedWhenFull(int promise, String why, Maker maker, Call call, long number) {
        refusedOn(promise, why, maker, false, call, number, number);
    }

    /** The call answers a number that is no refusal, and changes nothing at all. */
    private static void tells(int promise, String why, Call call, long answer) {
        refusedOn(promise, why, BusyHouse::make, true, call, answer, 0);
    }

    private static void promises2To7() {
        refused(2, "0 DAYS", h -> h.days(0), -6);
        refused(2, "-1 DAYS", h -> h.days(-1), -6);
        refused(2, "4,001 DAYS", h -> h.days(4001), -6);
        refused(2, "the most DAYS of an int", h -> h.days(Integer.MAX_VALUE), -6);
        refused(2, "the least DAYS of an int", h -> h.days(Integer.MIN_VALUE), -6);
        refusedWhenFull(2, "more than 40,000 DAYS in all", RefusalsTest::lateHouse, h -> h.days(2), -6);
        refused(3, "BORN on -40,001", h -> h.person(-40001), -6);
        refused(3, "BORN on 40,001", h -> h.person(40001), -6);
        refusedWhenFull(3, "more than 24", RefusalsTest::allPeople, h -> h.person(0), -7);
        refusedWhenFull(3, "BORN ahead of more than 24", RefusalsTest::allPeople, h -> h.person(40001), -6);
        refused(4, "nobody", h -> h.founder(8), -1);
        refused(4, "nobody below", h -> h.founder(-1), -1);
        refused(5, "no child", h -> h.link(8, 0, 0), -1);
        refused(5, "no parent", h -> h.link(3, 0, 8), -1);
        refused(5, "no child below", h -> h.link(-1, 0, 0), -1);
        refused(5, "no parent below", h -> h.link(3, 0, -1), -1);
        refused(5, "nobody ahead of no LINK", h -> h.link(8, 2, 8), -1);
        refused(5, "LINK 2", h -> h.link(3, 2, 0), -6);
        refused(5, "LINK -1", h -> h.link(3, -1, 0), -6);
        refused(5, "it was told", h -> h.link(1, 0, 0), -6);
        refused(5, "it was told, of another parent", h -> h.link(2, 1, 5), -6);
        refused(5, "the parent is itself", h -> h.link(3, 0, 3), -6);
        refused(5, "one comes UP from the parent by one LINK", h -> h.link(0, 0, 1), -6);
        refused(5, "one comes UP from the parent by two LINKS", h -> h.link(0, 1, 2), -6);
        refused(6, "nobody", h -> h.fact(8, 0, 0, 0), -1);
        refused(6, "nobody ahead of no SORT", h -> h.fact(-1, 4, 0, 0), -1);
        refused(6, "SORT 4", h -> h.fact(0, 4, 0, 0), -6);
        refused(6, "SORT -1", h -> h.fact(0, -1, 0, 0), -6);
        refused(6, "value 10,000", h -> h.fact(0, 0, 10000, 0), -6);
        refused(6, "value -1", h -> h.fact(0, 0, -1, 0), -6);
        refused(6, "from 40,001", h -> h.fact(0, 0, 0, 40001), -6);
        refused(6, "from -40,001", h -> h.fact(0, 0, 0, -40001), -6);
        refusedWhenFull(6, "more than 400", RefusalsTest::allFacts, h -> h.fact(0, 0, 1, 0), -7);
        refusedWhenFull(6, "value ahead of more than 400", RefusalsTest::allFacts, h -> h.fact(0, 0, -1, 0), -6);
        refusedWhenFull(6, "nobody ahead of more than 400", RefusalsTest::allFacts, h -> h.fact(1, 0, 1, 0), -1);
        refused(7, "nobody", h -> h.death(8, 0), -1);
        refused(7, "nobody ahead of a DAY behind NOW", h -> h.death(-1, 111), -1);
        refused(7, "it was told", h -> h.death(6, 50), -6);
        refused(7, "it was told, on another DAY", h -> h.death(6, 51), -6);
        refused(7, "ahead of BORN", h -> h.death(0, -9001), -6);
        refused(7, "behind NOW", h -> h.death(0, 111), -6);
    }

    private static CollegeHouse lateHouse() {
        CollegeHouse house = new CollegeHouse();
        for (int i = 0; i < 9; i++) {
            house.days(4000);
        }
        house.days(3999);
        return house;
    }

    private static CollegeHouse allPeople() {
        CollegeHouse house = new CollegeHouse();
        for (int who = 0; who < 24; who++) {
            house.person(who);
        }
        return house;
    }

    private static CollegeHouse allFacts() {
        CollegeHouse house = new CollegeHouse();
        house.person(0);
        for (int i = 0; i < 400; i++) {
            house.fact(0, i % 4, i, 0);
        }
        return house;
    }

    private static void promises8To10() {
        tells(8, "no such one", h -> h.is(8, 0, 0, 0), -1);
        tells(8, "no such one below", h -> h.is(-1, 0, 0, 0), -1);
        tells(8, "no such SORT", h -> h.is(0, 4, 0, 0), -1);
        tells(8, "no such SORT below", h -> h.is(0, -1, 0, 0), -1);
        tells(9, "no such one", h -> h.kin(8, false, 0), -1);
        tells(9, "no such one NEAR", h -> h.kin(-1, true, 0), -1);
        tells(10, "no such one", h -> h.settles(8), -1);
        tells(10, "no such one below", h -> h.settles(-1), -1);
        tells(10, "NEAR is KIN", h -> h.settles(0), -1);
    }

    private static void promises11To13() {
        refused(11, "SHELF 10", h -> h.row(10, 0, 0), -1);
        refused(11, "SHELF -1", h -> h.row(-1, 0, 0), -1);
        refused(11, "no SHELF ahead of a size below 0", h -> h.row(10, 4, -1), -1);
        refused(11, "no SHELF ahead of SORT", h -> h.row(10, 4, 0), -1);
        refused(11, "no SHELF ahead of n above 80", h -> h.row(-1, 0, 81), -1);
        refused(11, "n -1", h -> h.row(0, 0, -1), -4);
        refused(11, "n below 0 ahead of SORT", h -> h.row(0, 4, -1), -4);
        refused(11, "SORT 4", h -> h.row(0, 4, 1), -6);
        refused(11, "SORT -1", h -> h.row(0, -1, 1), -6);
        refused(11, "SORT ahead of n above 80", h -> h.row(0, 4, 81), -6);
        refused(11, "n 81", h -> h.row(0, 0, 81), -7);
        refused(11, "n 81 on a SHELF that holds NOTHING", h -> h.row(2, 0, 81), -7);
        refused(12, "SHELF 10", h -> h.set(10, 0, 1), -1);
        refused(12, "SHELF -1", h -> h.set(-1, 0, 1), -1);
        refused(12, "one of PEOPLE", h -> h.set(1, 0, 1), -2);
        refused(12, "one of PEOPLE ahead of an element that isn't there", h -> h.set(1, -1, 1), -2);
        refused(12, "NOTHING", h -> h.set(2, 0, 1), -3);
        refused(12, "NOTHING ahead of an element that isn't there", h -> h.set(2, -1, 1), -3);
        refused(12, "element 3 of 3", h -> h.set(0, 3, 1), -5);
        refused(12, "element -1", h -> h.set(0, -1, 1), -5);
        refused(12, "element 0 of none", h -> h.set(4, 0, 1), -5);
        refused(12, "element 80", h -> h.set(0, 80, 1), -5);
        refused(12, "the greatest int", h -> h.set(0, Integer.MAX_VALUE, 1), -5);
        refused(13, "SHELF 10", h -> h.copy(10, 0, 0, 0, 1), -1);
        refused(13, "SHELF -1", h -> h.copy(0, -1, 0, 0, 1), -1);
        refused(13, "no SHELF ahead of one of PEOPLE", h -> h.copy(1, 10, 0, 0, 1), -1);
        refused(13, "no SHELF ahead of NOTHING", h -> h.copy(-1, 2, 0, 0, 1), -1);
        refused(13, "no SHELF ahead of n", h -> h.copy(0, 10, 0, 0, -1), -1);
        refused(13, "one of PEOPLE in p", h -> h.copy(1, 0, 0, 0, 1), -2);
        refused(13, "one of PEOPLE in q", h -> h.copy(0, 1, 0, 0, 1), -2);
        refused(13, "one of PEOPLE in p ahead of NOTHING", h -> h.copy(1, 2, 0, 0, 1), -2);
        refused(13, "one of PEOPLE in q ahead of NOTHING", h -> h.copy(2, 1, 0, 0, 1), -2);
        refused(13, "two SORTS", h -> h.copy(0, 6, 0, 0, 1), -2);
        refused(13, "two SORTS ahead of n", h -> h.copy(0, 6, 0, 0, -1), -2);
        refused(13, "two SORTS ahead of an end", h -> h.copy(6, 0, 0, 0, 9), -2);
        refused(13, "two SORTS, though none is copied", h -> h.copy(0, 4, 0, 0, 0), -2);
        refused(13, "NOTHING in p: two SORTS only when both hold something", h -> h.copy(2, 0, 0, 0, 1), -3);
        refused(13, "NOTHING in q: two SORTS only when both hold something", h -> h.copy(6, 2, 0, 0, 1), -3);
        refused(13, "NOTHING in both", h -> h.copy(2, 2, 0, 0, 1), -3);
        refused(13, "NOTHING ahead of n", h -> h.copy(2, 0, 0, 0, -1), -3);
        refused(13, "n -1", h -> h.copy(0, 7, 0, 0, -1), -4);
        refused(13, "n below 0 ahead of i below 0", h -> h.copy(0, 7, -1, -1, -1), -4);
        refused(13, "i -1", h -> h.copy(0, 7, -1, 0, 1), -5);
        refused(13, "j -1", h -> h.copy(0, 7, 0, -1, 1), -5);
        refused(13, "i -1, though none is copied", h -> h.copy(0, 7, -1, 0, 0), -5);
        refused(13, "j -1, though none is copied", h -> h.copy(0, 7, 0, -1, 0), -5);
        refused(13, "an end in p", h -> h.copy(0, 0, 2, 0, 2), -5);
        refused(13, "an end in q", h -> h.copy(0, 7, 0, 1, 2), -5);
        refused(13, "one too many", h -> h.copy(0, 0, 0, 0, 4), -5);
        refused(13, "an end behind all ints", h -> h.copy(0, 0, 1, 1, Integer.MAX_VALUE), -5);
        refused(13, "the greatest i", h -> h.copy(0, 0, Integer.MAX_VALUE, 0, 1), -5);
        refused(13, "the greatest j", h -> h.copy(0, 0, 0, Integer.MAX_VALUE, 1), -5);
    }

    private static void promises14To17() {
        tells(14, "no SHELF", h -> h.element(10, 0), 0);
        tells(14, "no SHELF below", h -> h.element(-1, 0), 0);
        tells(14, "no element", h -> h.element(0, 3), 0);
        tells(14, "no element below", h -> h.element(0, -1), 0);
        tells(14, "one of PEOPLE", h -> h.element(1, 0), 0);
        tells(14, "NOTHING", h -> h.element(2, 0), 0);
        refused(15, "SHELF 10", h -> h.show(10, 0), -1);
        refused(15, "SHELF -1", h -> h.show(-1, 0), -1);
        refused(15, "SHELF 10 for NOTHING", h -> h.show(10, -1), -1);
        refused(15, "nobody", h -> h.show(0, 8), -1);
        refused(15, "nobody below", h -> h.show(0, -2), -1);
        tells(16, "no SHELF", h -> h.holds(10), -1);
        tells(16, "no SHELF below", h -> h.holds(-1), -1);
        tells(16, "NOTHING", h -> h.holds(2), -1);
        refusedOn(17, "SHELF 10", BusyHouse::make, true, h -> h.bornIn(10), -1_000_001, -1);
        refusedOn(17, "SHELF -1", BusyHouse::make, true, h -> h.bornIn(-1), -1_000_001, -1);
        refusedOn(17, "a ROW", BusyHouse::make, true, h -> h.bornIn(0), -1_000_002, -2);
        refusedOn(17, "a ROW of none", BusyHouse::make, true, h -> h.bornIn(4), -1_000_002, -2);
        refusedOn(17, "NOTHING", BusyHouse::make, true, h -> h.bornIn(2), -1_000_003, -3);
    }

    private static void promises18To19() {
        refused(18, "STATUTE 4", h -> h.statute(4, 3), -1);
        refused(18, "STATUTE -1", h -> h.statute(-1, 3), -1);
        refused(18, "no STATUTE ahead of one of PEOPLE", h -> h.statute(4, 1), -1);
        refused(18, "no STATUTE ahead of NOTHING", h -> h.statute(4, 2), -1);
        refused(18, "SHELF 10", h -> h.statute(1, 10), -1);
        refused(18, "SHELF -1", h -> h.statute(1, -1), -1);
        refused(18, "no SHELF ahead of it was told", h -> h.statute(0, 10), -1);
        refused(18, "one of PEOPLE", h -> h.statute(1, 1), -2);
        refused(18, "one of PEOPLE ahead of it was told", h -> h.statute(0, 1), -2);
        refused(18, "NOTHING", h -> h.statute(1, 2), -3);
        refused(18, "NOTHING ahead of it was told", h -> h.statute(0, 2), -3);
        refused(18, "it was told", h -> h.statute(0, 5), -6);
        refused(18, "it was told, in the same words", h -> h.statute(0, 3), -6);
        refused(18, "it is empty", h -> h.statute(1, 4), -6);
        refused(19, "STATUTE 4", h -> h.amend(4, 3, 5, 0), -1);
        refused(19, "STATUTE -1", h -> h.amend(-1, 3, 5, 0), -1);
        refused(19, "SHELF 10 for a", h -> h.amend(0, 10, 5, 0), -1);
        refused(19, "SHELF -1 for b", h -> h.amend(0, 3, -1, 0), -1);
        refused(19, "no SHELF ahead of one of PEOPLE", h -> h.amend(0, 1, 10, 0), -1);
        refused(19, "no STATUTE ahead of NOTHING", h -> h.amend(4, 2, 2, 0), -1);
        refused(19, "one of PEOPLE for a", h -> h.amend(0, 1, 5, 0), -2);
        refused(19, "one of PEOPLE for b", h -> h.amend(0, 3, 1, 0), -2);
        refused(19, "one of PEOPLE ahead of NOTHING", h -> h.amend(0, 2, 1, 0), -2);
        refused(19, "one of PEOPLE ahead of from", h -> h.amend(0, 1, 5, -1), -2);
        refused(19, "NOTHING for a", h -> h.amend(0, 2, 5, 0), -3);
        refused(19, "NOTHING for b", h -> h.amend(0, 3, 2, 0), -3);
        refused(19, "NOTHING ahead of from", h -> h.amend(0, 3, 2, 40001), -3);
        refused(19, "NOTHING ahead of an empty one", h -> h.amend(0, 4, 2, 0), -3);
        refused(19, "from -1", h -> h.amend(0, 3, 5, -1), -6);
        refused(19, "from 40,001", h -> h.amend(0, 3, 5, 40001), -6);
        refused(19, "a is empty", h -> h.amend(0, 4, 5, 0), -6);
        refused(19, "b is empty", h -> h.amend(0, 3, 4, 0), -6);
        refusedWhenFull(19, "more than 12", RefusalsTest::allAmendments, h -> h.amend(0, 3, 5, 0), -7);
        refusedWhenFull(19, "more than 12 of another STATUTE", RefusalsTest::allAmendments,
            h -> h.amend(3, 3, 5, 0), -7);
        refusedWhenFull(19, "from ahead of more than 12", RefusalsTest::allAmendments, h -> h.amend(0, 3, 5, -1), -6);
        refusedWhenFull(19, "an empty one ahead of more than 12", RefusalsTest::allAmendments,
            h -> h.amend(0, 3, 4, 0), -6);
        refusedWhenFull(19, "NOTHING ahead of more than 12", RefusalsTest::allAmendments,
            h -> h.amend(0, 3, 2, 0), -3);
    }

    private static CollegeHouse allAmendments() {
        CollegeHouse house = BusyHouse.make();
        for (int i = 2; i < 12; i++) {
            house.amend(i % 3, 3, 5, 20000 + i);
        }
        return house;
    }

    private static void promises20To24() {
        tells(20, "no such STATUTE", h -> h.words(4, 0, 0, -1), -1);
        tells(20, "no such STATUTE below", h -> h.words(-1, 0, 0, 0), -1);
        tells(20, "no such letter", h -> h.words(0, 0, 0, 1), -1);
        tells(20, "no such letter below", h -> h.words(0, 0, 0, -2), -1);
        tells(20, "the greatest letter", h -> h.words(0, 0, 0, Integer.MAX_VALUE), -1);
        tells(21, "not KNOWN then", h -> h.gone(0, 30000, 99), -1);
        tells(21, "not in force", h -> h.gone(0, 29999, 100), -1);
        tells(21, "no such one", h -> h.gone(2, 30000, 100), -1);
        tells(21, "no such one below", h -> h.gone(-1, 30000, 100), -1);
        tells(22, "a LAW", h -> h.fault(0, 0, 0), -1);
        tells(22, "no such STATUTE", h -> h.fault(4, 0, 0), -1);
        tells(22, "no such STATUTE below", h -> h.fault(-1, 0, 0), -1);
        tells(23, "no such one", h -> h.may(8, 0, 0, 0), -1);
        tells(23, "no such one below", h -> h.may(-1, 0, 0, 0), -1);
        tells(23, "no such STATUTE", h -> h.may(0, 4, 0, 0), -1);
        tells(23, "no such STATUTE below", h -> h.may(0, -1, 0, 0), -1);
        tells(24, "no such TEST", h -> h.test(0, 0, 0, 0, 1), -1);
        tells(24, "no such TEST below", h -> h.test(0, 0, 0, 0, -1), -1);
        tells(24, "no such one", h -> h.test(8, 0, 0, 0, 0), -1);
        tells(24, "no such STATUTE", h -> h.test(0, 4, 0, 0, 0), -1);
    }

    private static void promises25To30() {
        refused(25, "KIND 4", h -> h.place(4), -1);
        refused(25, "KIND -1", h -> h.place(-1), -1);
        refusedWhenFull(25, "more than 12", RefusalsTest::allPlaces, h -> h.place(0), -7);
        refusedWhenFull(25, "KIND ahead of more than 12", RefusalsTest::allPlaces, h -> h.place(4), -1);
        refused(26, "GRACE -1", h -> h.grace(-1), -6);
        refused(26, "GRACE 4,001", h -> h.grace(4001), -6);
        refused(27, "nobody", h -> h.hold(8, 5), -1);
        refused(27, "nobody below", h -> h.hold(-1, 5), -1);
        refused(27, "no PLACE", h -> h.hold(4, 7), -1);
        refused(27, "no PLACE below", h -> h.hold(4, -1), -1);
        refused(27, "nobody ahead of it is held", h -> h.hold(8, 0), -1);
        refused(27, "it is held", h -> h.hold(4, 0), -6);
        refused(27, "it is held by the same one", h -> h.hold(0, 0), -6);
        refused(27, "who MAY not", h -> h.hold(7, 5), -6);
        refused(27, "who MAY not from DEATH on", h -> h.hold(6, 5), -6);
        refused(27, "holds one of its KIND", h -> h.hold(0, 5), -6);
        refused(28, "no PLACE", h -> h.leave(7), -1);
        refused(28, "no PLACE below", h -> h.leave(-1), -1);
        refused(28, "none does", h -> h.leave(5), -6);
        tells(29, "no such PLACE", h -> h.about(7, 0), -1);
        tells(29, "no such PLACE below", h -> h.about(-1, 0), -1);
        tells(29, "another what", h -> h.about(0, 4), -1);
        tells(29, "another what below", h -> h.about(0, -1), -1);
        refused(30, "nobody", h -> h.ballot(8, 6), -1);
        refused(30, "nobody below", h -> h.ballot(-1, 6), -1);
        refused(30, "nobody ahead of one of PEOPLE", h -> h.ballot(8, 1), -1);
        refused(30, "nobody ahead of NOTHING", h -> h.ballot(8, 2), -1);
        refused(30, "SHELF 10", h -> h.ballot(0, 10), -1);
        refused(30, "SHELF -1", h -> h.ballot(0, -1), -1);
        refused(30, "one of PEOPLE", h -> h.ballot(0, 1), -2);
        refused(30, "NOTHING", h -> h.ballot(0, 2), -3);
    }

    private static CollegeHouse allPlaces() {
        CollegeHouse house = BusyHouse.make();
        for (int p = 7; p < 12; p++) {
            house.place(p % 4);
        }
        return house;
    }

    private static void promises31To35() {
        refused(31, "no PLACE", h -> h.elect(7, 16), -1);
        refused(31, "no PLACE below", h -> h.elect(-1, 16), -1);
        refused(31, "a bit of none", h -> h.elect(5, 16 | 1 << 8), -1);
        refused(31, "a bit of none above all", h -> h.elect(5, 16 | 1 << 31), -1);
        refused(31, "a bit of none ahead of it is held", h -> h.elect(0, 16 | 1 << 8), -1);
        refused(31, "no PLACE ahead of no CANDIDATE", h -> h.elect(7, 0), -1);
        refused(31, "it is held", h -> h.elect(4, 16), -6);
        refused(31, "no CANDIDATE", h -> h.elect(5, 0), -6);
        refused(31, "one who MAY not", h -> h.elect(5, 16 | 1 << 7), -6);
        refused(31, "one from DEATH on", h -> h.elect(5, 16 | 1 << 6), -6);
        refused(31, "one holds one of the KIND", h -> h.elect(5, 16 | 1), -6);
        refusedOn(31, "no QUORUM", RefusalsTest::noQuorum, true, h -> h.elect(5, 32), -6, -6);
        refusedOn(31, "no QUORUM without FELLOWS", RefusalsTest::noFellows, true, h -> h.elect(5, 32), -6, -6);
        tells(32, "no such ROUND", h -> h.votes(1, 2), -1);
        tells(32, "no such ROUND below", h -> h.votes(-1, 2), -1);
        tells(32, "it didn't stand in it", h -> h.votes(0, 0), -1);
        tells(32, "nobody", h -> h.votes(0, 8), -1);
        tells(33, "no such CANDIDATE", h -> h.without(4), -1);
        tells(33, "nobody", h -> h.without(8), -1);
        tells(33, "nobody below", h -> h.without(-1), -1);
        tells(34, "it is held", h -> h.asked(6), -1);
        tells(34, "no LIVING's PLACE", h -> h.asked(5), -1);
        tells(34, "no PLACE", h -> h.asked(7), -1);
        tells(34, "no PLACE below", h -> h.asked(-1), -1);
        refused(35, "no PLACE", h -> h.answer(7, true), -1);
        refused(35, "no PLACE below", h -> h.answer(-1, false), -1);
        refused(35, "nobody is to be asked: it is held", h -> h.answer(6, true), -6);
        refused(35, "nobody is to be asked: no LIVING's PLACE", h -> h.answer(5, false), -6);
        refusedOn(35, "nobody is to be asked: all have PASSED it", RefusalsTest::allPassed, true,
            h -> h.answer(3, false), -6, -6);
    }

    /** Two of five holders of fellows' places have a ballot. */
    private static CollegeHouse noQuorum() {
        CollegeHouse house = BusyHouse.make();
        house.place(1);
        house.place(1);
        house.place(1);
        house.hold(2, 7);
        house.hold(3, 8);
        house.hold(4, 9);
        return house;
    }

    private static CollegeHouse noFellows() {
        CollegeHouse house = BusyHouse.make();
        house.leave(0);
        house.leave(1);
        return house;
    }

    private static CollegeHouse allPassed() {
        CollegeHouse house = BusyHouse.make();
        house.answer(3, false);
        return house;
    }

    private static void promises36To41() {
        refused(36, "VALUE 0", h -> h.lease(0, 1, 1, 1, 1, 1), -6);
        refused(36, "VALUE 10,000", h -> h.lease(10000, 1, 1, 1, 1, 1), -6);
        refused(36, "COIN -1", h -> h.lease(1, -1, 1, 1, 1, 1), -6);
        refused(36, "COIN 1,000", h -> h.lease(1, 1000, 1, 1, 1, 1), -6);
        refused(36, "CORN -1", h -> h.lease(1, 1, -1, 1, 1, 1), -6);
        refused(36, "CORN 1,000", h -> h.lease(1, 1, 1000, 1, 1, 1), -6);
        refused(36, "WEEK -1", h -> h.lease(1, 1, 1, -1, 1, 1), -6);
        refused(36, "WEEK 52", h -> h.lease(1, 1, 1, 52, 1, 1), -6);
        refused(36, "FULL 0", h -> h.lease(1, 1, 1, 1, 0, 1), -6);
        refused(36, "FULL 41", h -> h.lease(1, 1, 1, 1, 41, 1), -6);
        refused(36, "END -1", h -> h.lease(1, 1, 1, 1, 1, -1), -6);
        refused(36, "END 201", h -> h.lease(1, 1, 1, 1, 1, 201), -6);
        refusedWhenFull(36, "more than 8", RefusalsTest::allLeases, h -> h.lease(1, 1, 1, 1, 1, 1), -7);
        refusedWhenFull(36, "VALUE ahead of more than 8", RefusalsTest::allLeases,
            h -> h.lease(0, 1, 1, 1, 1, 1), -6);
        refused(37, "a bit of none", h -> h.lives(1, 1, 1, 1, 1 << 8), -1);
        refused(37, "a bit of none above all", h -> h.lives(1, 1, 1, 1, 1 << 31), -1);
        refused(37, "a bit of none ahead of VALUE", h -> h.lives(0, 1, 1, 1, 1 << 8), -1);
        refused(37, "a bit of none ahead of four LIVES", h -> h.lives(1, 1, 1, 1, 7 | 1 << 8), -1);
        refused(37, "VALUE 0", h -> h.lives(0, 1, 1, 1, 1), -6);
        refused(37, "VALUE 10,000", h -> h.lives(10000, 1, 1, 1, 1), -6);
        refused(37, "COIN -1", h -> h.lives(1, -1, 1, 1, 1), -6);
        refused(37, "COIN 1,000", h -> h.lives(1, 1000, 1, 1, 1), -6);
        refused(37, "CORN -1", h -> h.lives(1, 1, -1, 1, 1), -6);
        refused(37, "CORN 1,000", h -> h.lives(1, 1, 1000, 1, 1), -6);
        refused(37, "WEEK -1", h -> h.lives(1, 1, 1, -1, 1), -6);
        refused(37, "WEEK 52", h -> h.lives(1, 1, 1, 52, 1), -6);
        refused(37, "no LIVES", h -> h.lives(1, 1, 1, 1, 0), -6);
        refused(37, "four LIVES", h -> h.lives(1, 1, 1, 1, 0b1111), -6);
        refusedWhenFull(37, "more than 8", RefusalsTest::allLeases, h -> h.lives(1, 1, 1, 1, 1), -7);
        refusedWhenFull(37, "no LIVES ahead of more than 8", RefusalsTest::allLeases,
            h -> h.lives(1, 1, 1, 1, 0), -6);
        refusedWhenFull(37, "a bit of none ahead of more than 8", RefusalsTest::allLeases,
            h -> h.lives(1, 1, 1, 1, 1 << 8), -1);
        refused(38, "YEAR -1", h -> h.price(-1, 1, 1), -6);
        refused(38, "YEAR 201", h -> h.price(201, 1, 1), -6);
        refused(38, "WEEK -1", h -> h.price(1, -1, 1), -6);
        refused(38, "WEEK 52", h -> h.price(1, 52, 1), -6);
        refused(38, "n -1", h -> h.price(1, 1, -1), -6);
        refused(38, "n 1,000", h -> h.price(1, 1, 1000), -6);
        refused(38, "told already", h -> h.price(0, 5, 31), -6);
        refused(38, "told already, the same", h -> h.price(0, 5, 30), -6);
        refusedWhenFull(38, "more than 200", RefusalsTest::allPrices, h -> h.price(200, 51, 1), -7);
        refusedWhenFull(38, "told already ahead of more than 200", RefusalsTest::allPrices,
            h -> h.price(0, 0, 1), -6);
        tells(39, "no such LEASE", h -> h.ends(3), -1);
        tells(39, "no such LEASE below", h -> h.ends(-1), -1);
        tells(40, "no such LEASE", h -> h.rent(3, 0), -1);
        tells(40, "no such LEASE below", h -> h.rent(-1, 0), -1);
        tells(40, "no such YEAR", h -> h.rent(0, 201), -1);
        tells(40, "no such YEAR below", h -> h.rent(0, -1), -1);
        refused(41, "SHELF 10", h -> h.table(10), -1);
        refused(41, "SHELF -1", h -> h.table(-1), -1);
        refused(41, "one of PEOPLE", h -> h.table(1), -2);
        refused(41, "NOTHING", h -> h.table(2), -3);
        refused(41, "an element of 10,001", h -> h.table(7), -6);
        refusedOn(41, "an element of -1", RefusalsTest::belowZero, true, h -> h.table(0), -6, -6);
    }

    private static CollegeHouse belowZero() {
        CollegeHouse house = BusyHouse.make();
        house.set(0, 0, -1);
        return house;
    }

    private static CollegeHouse allLeases() {
        CollegeHouse house = BusyHouse.make();
        for (int l = 3; l < 8; l++) {
            house.lease(5, 1, 1, 1, 1, l);
        }
        return house;
    }

    private static CollegeHouse allPrices() {
        CollegeHouse house = new CollegeHouse();
        for (int i = 0; i < 200; i++) {
            house.price(i / 52, i % 52, i);
        }
        return house;
    }

    /** All but one of the entries that may be, and another year in which nothing was taken or parted. */
    private static CollegeHouse entries(int n) {
        CollegeHouse house = new CollegeHouse();
        house.person(0);
        house.lease(5, 1, 1, 1, 1, 9);
        house.lives(5, 1, 1, 1, 1);
        for (int i = 0; i < n; i++) {
            house.other(i % 2);
        }
        return house;
    }

    private static CollegeHouse allEntries() {
        return entries(400);
    }

    private static void promises42To49() {
        refused(42, "no LEASE", h -> h.renew(3), -1);
        refused(42, "no LEASE below", h -> h.renew(-1), -1);
        refused(42, "it is for LIVES", h -> h.renew(2), -6);
        refusedOn(42, "it ended ahead of this YEAR", RefusalsTest::anotherYear, true, h -> h.renew(0), -6, -6);
        refusedWhenFull(42, "more than 400 ENTRIES", RefusalsTest::allEntries, h -> h.renew(0), -7);
        refusedWhenFull(42, "LIVES ahead of more than 400 ENTRIES", RefusalsTest::allEntries, h -> h.renew(1), -6);
        refusedWhenFull(42, "no LEASE ahead of more than 400 ENTRIES", RefusalsTest::allEntries, h -> h.renew(2), -1);
        refused(43, "they were taken", h -> h.rents(), -6);
        refusedWhenFull(43, "more than 400 ENTRIES", RefusalsTest::allEntries, h -> h.rents(), -7);
        refused(44, "nobody", h -> h.kept(8, 0), -1);
        refused(44, "nobody below", h -> h.kept(-1, 0), -1);
        refused(44, "nobody ahead of n", h -> h.kept(8, 366), -1);
        refused(44, "n -1", h -> h.kept(0, -1), -6);
        refused(44, "n 366", h -> h.kept(0, 366), -6);
        refused(45, "it was parted", h -> h.dividend(1), -6);
        refusedOn(45, "POT -1", RefusalsTest::anotherYear, true, h -> h.dividend(-1), -6, -6);
        refusedOn(45, "POT above THE CHEST", RefusalsTest::anotherYear, true, h -> h.dividend(h.status(9) + 1), -6, -6);
        refusedWhenFull(45, "more than 400 ENTRIES", RefusalsTest::allEntries, h -> h.dividend(0), -7);
        refusedWhenFull(45, "POT ahead of more than 400 ENTRIES", RefusalsTest::allEntries, h -> h.dividend(-1), -6);
        tells(46, "no such one", h -> h.got(8), -1);
        tells(46, "no such one below", h -> h.got(-1), -1);
        refused(47, "-100,000", h -> h.other(-100000), -6);
        refused(47, "100,000", h -> h.other(100000), -6);
        refused(47, "the least int", h -> h.other(Integer.MIN_VALUE), -6);
        refused(47, "it would be below 0", h -> h.other(-h.status(9) - 1), -6);
        refusedWhenFull(47, "more than 400 ENTRIES", RefusalsTest::allEntries, h -> h.other(0), -7);
        refusedWhenFull(47, "below 0 ahead of more than 400 ENTRIES", RefusalsTest::allEntries,
            h -> h.other(-201), -6);
        tells(48, "no such HEAD", h -> h.head(4, 0), -1_000_001);
        tells(48, "no such HEAD below", h -> h.head(-1, 0), -1_000_001);
        tells(49, "THE CHEST was counted", h -> h.audit(h.status(9)), 0);
    }

    /** Lease 0 ended a year ago; nothing was taken or parted in this year. */
    private static CollegeHouse anotherYear() {
        CollegeHouse house = BusyHouse.make();
        house.days(3 * 365);
        return house;
    }

    private static void promises50To53() {
        refused(50, "cost 0", h -> h.roof(0, 1), -6);
        refused(50, "cost 100,000", h -> h.roof(100000, 1), -6);
        refused(50, "worth -1", h -> h.roof(1, -1), -6);
        refused(50, "worth 10,000", h -> h.roof(1, 10000), -6);
        refusedOn(50, "more than 2", RefusalsTest::allRoofs, true, h -> h.roof(1, 1), -7, -7);
        refusedOn(50, "cost ahead of more than 2", RefusalsTest::allRoofs, true, h -> h.roof(0, 1), -6, -6);
        refused(51, "0 YEARS", h -> h.plan(0, 0, 0), -6);
        refused(51, "11 YEARS", h -> h.plan(11, 0, 0), -6);
        refused(51, "FLOOR -1", h -> h.plan(1, -1, 0), -6);
        refused(51, "FLOOR 100,000", h -> h.plan(1, 100000, 0), -6);
        refused(51, "UPKEEP -1", h -> h.plan(1, 0, -1), -6);
        refused(51, "UPKEEP 100,000", h -> h.plan(1, 0, 100000), -6);
        refused(51, "there is none", h -> h.plan(2, 99999, 0), -6);
        tells(52, "another what", h -> h.planned(3), -1);
        tells(52, "another what below", h -> h.planned(-1), -1);
        refused(53, "SHELF 10", h -> h.judge(10, 1, 0, 0), -1);
        refused(53, "SHELF -1", h -> h.judge(-1, 1, 0, 0), -1);
        refused(53, "one of PEOPLE", h -> h.judge(1, 1, 0, 0), -2);
        refused(53, "NOTHING", h -> h.judge(2, 1, 0, 0), -3);
        refused(53, "no elements", h -> h.judge(4, 1, 0, 0), -5);
        refused(53, "fewer elements ahead of Y", h -> h.judge(3, 0, 0, 0), -5);
        refusedOn(53, "fewer elements by one, of two ROOFS", RefusalsTest::allRoofs, true, h -> h.judge(6, 1, 0, 0),
            -5, -5);
        judgeRefused("0 YEARS", 0, -1, 0, 0, 0);
        judgeRefused("11 YEARS", 0, -1, 11, 0, 0);
        judgeRefused("FLOOR -1", 0, -1, 1, -1, 0);
        judgeRefused("FLOOR 100,000", 0, -1, 1, 100000, 0);
        judgeRefused("UPKEEP -1", 0, -1, 1, 0, -1);
        judgeRefused("UPKEEP 100,000", 0, -1, 1, 0, 100000);
        judgeRefused("a LEASE whose END is a YEAR behind them", 1, -1, 2, 0, 0);
        judgeRefused("a LEASE for LIVES", 4, -1, 10, 0, 0);
        judgeRefused("a YEAR of -2", 0, -2, 2, 0, 0);
        judgeRefused("a YEAR of Y", 0, 2, 2, 0, 0);
    }

    /** A judge() of renewing bits and the year of roof 0 is refused with -6. */
    private static void judgeRefused(String why, int bits, int year, int years, int floor, int upkeep) {
        Maker maker = () -> {
            CollegeHouse house = BusyHouse.make();
            house.set(6, 0, bits);
            house.set(6, 1, year);
            return house;
        };
        refusedOn(53, why, maker, true, h -> h.judge(6, years, floor, upkeep), -6, -6);
    }

    private static CollegeHouse allRoofs() {
        CollegeHouse house = BusyHouse.make();
        house.roof(20, 3);
        return house;
    }

    private static void promises54To59() {
        refusedOn(54, "more than 9", RefusalsTest::allRooms, true, h -> h.room(), -7, -7);
        refused(55, "nobody", h -> h.wish(8, 6), -1);
        refused(55, "nobody below", h -> h.wish(-1, 6), -1);
        refused(55, "nobody ahead of one of PEOPLE", h -> h.wish(8, 1), -1);
        refused(55, "nobody ahead of NOTHING", h -> h.wish(8, 2), -1);
        refused(55, "SHELF 10", h -> h.wish(0, 10), -1);
        refused(55, "SHELF -1", h -> h.wish(0, -1), -1);
        refused(55, "one of PEOPLE", h -> h.wish(0, 1), -2);
        refused(55, "NOTHING", h -> h.wish(0, 2), -3);
        tells(58, "no such one", h -> h.roomOf(8), -1);
        tells(58, "no such one below", h -> h.roomOf(-1), -1);
        tells(59, "another what", h -> h.status(19), -1);
        tells(59, "another what below", h -> h.status(-1), -1);
    }

    private static CollegeHouse allRooms() {
        CollegeHouse house = BusyHouse.make();
        for (int r = 3; r < 9; r++) {
            house.room();
        }
        return house;
    }

    public static void main(String[] args) {
        promises2To7();
        promises8To10();
        promises11To13();
        promises14To17();
        promises18To19();
        promises20To24();
        promises25To30();
        promises31To35();
        promises36To41();
        promises42To49();
        promises50To53();
        promises54To59();
        Checks.end();
    }
}
