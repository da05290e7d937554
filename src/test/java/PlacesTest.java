/** Promises 25 to 35: places, elections, turns of livings. */
public final class PlacesTest {
    /** A college of wed people, born each a year behind the one ahead, so that the lesser number is the elder. */
    private static CollegeHouse wedPeople(int howMany) {
        CollegeHouse house = new CollegeHouse();
        for (int who = 0; who < howMany; who++) {
            house.person(-9000 + 365 * who);
            house.fact(who, 1, 1, -100);
        }
        return house;
    }

    private static void promise25Place() {
        CollegeHouse house = new CollegeHouse();
        Checks.due("25: no kind", house.place(4), -1);
        Checks.due("25: no kind below", house.place(-1), -1);
        for (int p = 0; p < 12; p++) {
            Checks.due("25: a place", house.place(p % 4), p);
            Checks.due("25: its kind", house.about(p, 0), p % 4);
            Checks.due("25: held by none", house.about(p, 1), -1);
        }
        Checks.due("25: no kind ahead of too many", house.place(4), -1);
        Checks.due("25: too many", house.place(0), -7);
        Checks.due("25: how many", house.status(3), 12);
    }

    private static void promise26Grace() {
        CollegeHouse house = new CollegeHouse();
        Checks.due("26: at first", house.grace(4000), 365);
        Checks.due("26: below", house.grace(-1), -6);
        Checks.due("26: above", house.grace(4001), -6);
        Checks.due("26: none", house.grace(0), 4000);
        Checks.due("26: again", house.grace(1), 0);
    }

    private static void promise27Hold() {
        CollegeHouse house = wedPeople(3);
        house.fact(2, 1, 0, 0);
        house.place(1);
        house.place(1);
        house.place(2);
        Checks.due("27: nobody", house.hold(3, 0), -1);
        Checks.due("27: no place", house.hold(0, 3), -1);
        Checks.due("27: no place below", house.hold(0, -1), -1);
        Checks.due("27: who may not", house.hold(2, 0), -6);
        house.days(4);
        Checks.due("27: who may", house.hold(0, 0), 1);
        Checks.due("27: it is held", house.hold(1, 0), -6);
        Checks.due("27: holds one of the kind", house.hold(0, 1), -6);
        Checks.due("27: one of another kind", house.hold(0, 2), 1);
        Checks.due("27: who came when", house.about(0, 2), 4);
        Checks.due("27: held", house.status(4), 2);
        Checks.write(house, 0, "k<2");
        house.statute(3, 0);
        house.place(3);
        Checks.due("27: open", house.hold(0, 3), -6);
        Checks.write(house, 0, "k<");
        house.statute(0, 0);
        house.place(0);
        Checks.due("27: fault", house.hold(0, 4), -6);
        Checks.due("27: nothing changed", house.status(4), 2);
    }

    private static void promise28Leave() {
        CollegeHouse house = wedPeople(2);
        house.place(0);
        Checks.due("28: no place", house.leave(1), -1);
        Checks.due("28: no place below", house.leave(-1), -1);
        Checks.due("28: held by none", house.leave(0), -6);
        house.hold(1, 0);
        Checks.due("28: who held it", house.leave(0), 1);
        Checks.due("28: none now", house.about(0, 1), -1);
        Checks.due("28: no day", house.about(0, 2), -1);
        Checks.due("28: once", house.leave(0), -6);
        Checks.due("28: it may be held again", house.hold(1, 0), 1);
    }

    private static void promise29About() {
        CollegeHouse house = wedPeople(1);
        house.place(2);
        house.days(3);
        house.hold(0, 0);
        house.fact(0, 1, 0, 5);
        house.days(4);
        int[] of = {2, 0, 3, 7};
        for (int what = 0; what < 4; what++) {
            Checks.due("29: about " + what, house.about(0, what), of[what]);
        }
        Checks.due("29: another what", house.about(0, 4), -1);
        Checks.due("29: another what below", house.about(0, -1), -1);
        Checks.due("29: no place", house.about(1, 0), -1);
        Checks.due("29: no place below", house.about(-1, 0), -1);
        house.leave(0);
        Checks.due("29: no notice when left", house.about(0, 3), -1);
        house.fact(0, 1, 1, 6);
        house.hold(0, 0);
        Checks.due("29: nor when held again", house.about(0, 3), -1);
    }

    private static void promise30Ballot() {
        CollegeHouse house = wedPeople(3);
        house.show(1, 0);
        Checks.put(house, 0, 2, 1, 2, 99, -5);
        Checks.due("30: nobody", house.ballot(3, 0), -1);
        Checks.due("30: nobody ahead of people", house.ballot(-1, 1), -1);
        Checks.due("30: no shelf", house.ballot(0, 10), -1);
        Checks.due("30: one of people", house.ballot(0, 1), -2);
        Checks.due("30: nothing", house.ballot(0, 2), -3);
        Checks.due("30: all elements", house.ballot(0, 0), 5);
        house.place(1);
        house.place(2);
        house.hold(0, 0);
        house.set(0, 0, 1);
        Checks.due("30: as it was then", house.elect(1, 6), 2);
        house.row(0, 0, 0);
        Checks.due("30: an empty one", house.ballot(0, 0), 0);
        house.leave(1);
        Checks.due("30: a ballot all the same, for nobody", house.elect(1, 6), 1);
        Checks.due("30: no vote given", house.votes(0, 1), 0);
        house.leave(1);
        Checks.put(house, 0, 2 + 32, 2 - 32, 1);
        house.ballot(0, 0);
        Checks.due("30: numbers of none", house.elect(1, 6), 1);
        Checks.due("30: don't count", house.votes(0, 2), 0);
    }

    private static void promise30LongBallots() {
        CollegeHouse house = wedPeople(4);
        house.place(1);
        house.place(1);
        house.place(0);
        house.hold(0, 0);
        house.hold(1, 1);
        ballot(house, 1, 3);
        house.row(0, 0, 80);
        for (int i = 0; i < 80; i++) {
            house.set(0, i, 2);
        }
        Checks.due("30: the longest", house.ballot(0, 0), 80);
        Checks.due("30: one vote each", house.elect(2, 0xC), 2);
        Checks.due("30: of 0", house.votes(0, 2), 1);
        Checks.due("30: of 1", house.votes(0, 3), 1);
    }

    private static void ballot(CollegeHouse house, int who, long... order) {
        Checks.put(house, 9, order);
        Checks.due("ballot", house.ballot(who, 9), order.length);
    }

    /** Fellows 0 to 4 at places 0 to 4; an office's place 5, held by 5; place 6 of scholars is free. */
    private static CollegeHouse college() {
        CollegeHouse house = wedPeople(12);
        for (int p = 0; p < 5; p++) {
            house.place(1);
            house.hold(p, p);
        }
        house.place(2);
        house.hold(5, 5);
        house.place(0);
        return house;
    }

    private static void promise31Refused() {
        CollegeHouse house = college();
        ballot(house, 0, 6);
        ballot(house, 1, 6);
        Checks.due("31: no place", house.elect(7, 1 << 12), -1);
        Checks.due("31: a bit of none", house.elect(6, 1 << 12), -1);
        Checks.due("31: the highest bit", house.elect(6, Integer.MIN_VALUE), -1);
        Checks.due("31: a bit of none ahead of held", house.elect(0, 1 << 12 | 1), -1);
        Checks.due("31: it is held", house.elect(5, 1 << 6), -6);
        Checks.due("31: no candidate", house.elect(6, 0), -6);
        Checks.due("31: no quorum by two of five", house.elect(6, 1 << 6), -6);
        house.fact(6, 1, 0, 0);
        ballot(house, 2, 6);
        Checks.due("31: one who may not", house.elect(6, 3 << 6), -6);
        house.place(1);
        Checks.due("31: one who holds one of the kind", house.elect(7, 1 << 7 | 1), -6);
        Checks.due("31: no election", house.status(18), 0);
        Checks.due("31: none is known", house.votes(0, 7), -1);
        Checks.due("31: three of five", house.elect(6, 1 << 7), 7);
        Checks.due("31: it comes", house.about(6, 1), 7);
        CollegeHouse empty = wedPeople(2);
        empty.place(0);
        ballot(empty, 0, 1);
        Checks.due("31: no elector at all", empty.elect(0, 2), -6);
        empty.place(1);
        empty.place(1);
        empty.hold(0, 1);
        empty.hold(1, 2);
        Checks.due("31: half is enough", empty.elect(0, 2), 1);
        Checks.due("33: only the first stays", empty.without(1), -1);
        empty.days(3);
        empty.leave(0);
        Checks.due("31: again", empty.elect(0, 1), 0);
        Checks.due("31: the day on which it came", empty.about(0, 2), 3);
    }

    private static void promise31And32Rounds() {
        CollegeHouse house = college();
        ballot(house, 0, 6, 9);
        ballot(house, 1, 6);
        ballot(house, 2, 7, 8);
        ballot(house, 3, 8, 7);
        ballot(house, 4, 9, 8);
        // 6:2 7:1 8:1 9:1 of 5; out goes 9 (the youngest), then 7: 6:2 8:3
        Checks.due("31: by rounds", house.elect(6, 0xF << 6), 8);
        Checks.due("32: rounds", house.status(18), 3);
        int[][] votes = {{2, 1, 1, 1}, {2, 1, 2, -1}, {2, -1, 3, -1}};
        for (int i = 0; i < 3; i++) {
            for (int who = 6; who < 10; who++) {
                Checks.due("32: votes of " + who + " in " + i, house.votes(i, who), votes[i][who - 6]);
            }
        }
        Checks.due("32: who didn't stand", house.votes(0, 0), -1);
        Checks.due("32: no such round", house.votes(3, 6), -1);
        Checks.due("32: no such round below", house.votes(-1, 6), -1);
        Checks.due("32: nobody", house.votes(0, 12), -1);
        Checks.due("32: nobody below", house.votes(0, -1), -1);
        // 7:1 8:1 9:2 of 4; out goes 8, the younger; then 7:2 9:2, and the elder has it
        Checks.due("33: without the second", house.without(6), 7);
        Checks.due("33: without the winner", house.without(8), 6);
        Checks.due("33: a refused one", house.elect(6, 1 << 6), -6);
        Checks.due("32: leaves the latest", house.votes(2, 8), 3);
        Checks.due("32: and its rounds", house.status(18), 3);
    }

    private static void promise31Ties() {
        CollegeHouse house = college();
        ballot(house, 0, 6);
        ballot(house, 1, 7);
        ballot(house, 2, 7, 6);
        ballot(house, 3, 6);
        Checks.due("31: even, and no ballot of the officer: the elder", house.elect(6, 3 << 6), 6);
        house.leave(6);
        ballot(house, 5, 9, 7, 6);
        Checks.due("31: even: by the officer", house.elect(6, 3 << 6), 7);
        Checks.due("31: in one round", house.status(18), 1);
        Checks.due("31: who needs be no elector", house.votes(0, 7), 2);
        house.leave(6);
        ballot(house, 5, 9, 10);
        Checks.due("31: the officer has none of the two", house.elect(6, 3 << 6), 6);
        house.leave(6);
        house.place(2);
        house.hold(8, 7);
        ballot(house, 8, 7);
        Checks.due("31: the first office's place alone", house.elect(6, 3 << 6), 6);
        house.leave(6);
        house.leave(5);
        Checks.due("31: the first that is held", house.elect(6, 3 << 6), 7);
    }

    private static void promise31Ages() {
        CollegeHouse house = new CollegeHouse();
        int[] born = {-9000, -8000, -8500, -8500, -8000};
        for (int who = 0; who < 5; who++) {
            house.person(born[who]);
            house.fact(who, 1, 1, -9);
        }
        house.place(1);
        house.hold(0, 0);
        ballot(house, 0);
        house.place(0);
        // nobody has a vote: the youngest go out, of like ones the greater number; then the elder stays
        Checks.due("31: the elder of the last two", house.elect(1, 0x1E), 2);
        Checks.due("31: three rounds", house.status(18), 3);
        Checks.due("31: 4 is out first", house.votes(1, 4), -1);
        Checks.due("31: 1 still stands", house.votes(1, 1), 0);
        Checks.due("31: 1 is out next", house.votes(2, 1), -1);
        Checks.due("31: of like ones the lesser number", house.votes(2, 3), 0);
        Checks.due("33: without it", house.without(2), 3);
        house.leave(1);
        Checks.due("31: the lesser number of like ones", house.elect(1, 0xC), 2);
    }

    /** The one of number 0 is no elector, then a candidate who goes out, and one who is elected. */
    private static void promise31OfNumber0() {
        CollegeHouse house = new CollegeHouse();
        int[] born = {-8000, -8500, -9000, -8200};
        for (int who = 0; who < 4; who++) {
            house.person(born[who]);
            house.fact(who, 1, 1, -9);
        }
        house.place(2);
        house.place(1);
        house.place(1);
        house.place(0);
        house.hold(0, 1);
        Checks.due("31: no ballot, so no quorum", house.elect(3, 2), -6);
        house.hold(1, 2);
        ballot(house, 1);
        Checks.due("31: half", house.elect(3, 0xF), 2);
        Checks.due("31: rounds", house.status(18), 3);
        Checks.due("32: the youngest is out", house.votes(1, 0), -1);
        Checks.due("32: then the next", house.votes(2, 3), -1);
        Checks.due("33: without it", house.without(2), 1);
        house.leave(3);
        Checks.due("31: of two the elder", house.elect(3, 9), 3);
        house.leave(3);
        house.person(-8000);
        house.fact(4, 1, 1, -9);
        Checks.due("31: of like ones the lesser number", house.elect(3, 17), 0);
        Checks.due("33: the other one", house.without(0), 4);
        Checks.due("33: the one left", house.without(4), 0);
        house.leave(3);
        house.hold(2, 0);
        ballot(house, 2, 3, 4);
        Checks.due("31: an officer at the first place of all", house.elect(3, 17), 4);
    }

    private static void promise33Without() {
        CollegeHouse house = college();
        Checks.due("33: no election yet", house.without(6), -1);
        Checks.due("33: nor one with the first", house.without(0), -1);
        ballot(house, 0, 6, 7);
        ballot(house, 1, 6, 8);
        ballot(house, 2, 6, 8);
        Checks.due("33: elected", house.elect(6, 7 << 6), 6);
        ballot(house, 1, 7);
        ballot(house, 2, 7);
        house.leave(0);
        house.leave(5);
        Checks.due("33: by the same ballots and electors", house.without(6), 8);
        Checks.due("33: of another", house.without(7), 6);
        Checks.due("33: no candidate", house.without(0), -1);
        Checks.due("33: nobody", house.without(12), -1);
        Checks.due("33: nobody below", house.without(-1), -1);
        Checks.due("33: rounds stay", house.status(18), 1);
        Checks.due("33: votes stay", house.votes(0, 6), 3);
        house.leave(6);
        Checks.due("33: alone", house.elect(6, 1 << 7), 7);
        Checks.due("33: alone, so none", house.without(7), -1);
        Checks.due("33: in one round", house.status(18), 1);
    }

    private static void promise34And35Livings() {
        CollegeHouse house = wedPeople(6);
        for (int p = 0; p < 4; p++) {
            house.place(1);
        }
        house.hold(3, 0);
        house.days(1);
        house.hold(2, 1);
        house.hold(1, 2);
        house.days(1);
        house.hold(0, 3);
        house.place(3);
        house.place(3);
        house.place(0);
        Checks.due("34: the senior", house.asked(4), 3);
        Checks.due("34: no living's place", house.asked(6), -1);
        Checks.due("34: no place", house.asked(7), -1);
        Checks.due("34: no place below", house.asked(-1), -1);
        Checks.due("35: no place", house.answer(7, true), -1);
        Checks.due("35: nobody at a scholar's place", house.answer(6, true), -6);
        Checks.due("35: passes", house.answer(4, false), 3);
        Checks.due("34: of one day the lesser number", house.asked(4), 1);
        Checks.due("34: who passed one is asked for another", house.asked(5), 3);
        Checks.due("35: takes", house.answer(4, true), 1);
        Checks.due("35: holds it", house.about(4, 1), 1);
        Checks.due("35: from now", house.about(4, 2), 2);
        Checks.due("34: it is held", house.asked(4), -1);
        Checks.due("35: it is held", house.answer(4, false), -6);
        house.answer(5, false);
        Checks.due("34: who holds one isn't asked", house.asked(5), 2);
        house.fact(2, 1, 0, 0);
        Checks.due("34: nor who may not", house.asked(5), 0);
        Checks.due("35: passes too", house.answer(5, false), 0);
        Checks.due("34: nobody", house.asked(5), -1);
        Checks.due("35: nobody", house.answer(5, false), -6);
        house.leave(4);
        Checks.due("34: passing ends as it was held", house.asked(4), 3);
        Checks.due("35: passing stays till it is held", house.asked(5), 1);
        house.hold(4, 5);
        house.leave(5);
        Checks.due("35: and then it ends", house.asked(5), 3);
        house.leave(0);
        Checks.due("34: fellows alone are asked", house.asked(5), 1);
        house.answer(5, false);
        Checks.due("34: then 0", house.asked(5), 0);
        CollegeHouse other = wedPeople(2);
        other.place(2);
        other.place(3);
        other.hold(0, 0);
        Checks.due("34: an officer is no fellow", other.asked(1), -1);
        Checks.due("35: nor is one to be asked", other.answer(1, true), -6);
    }

    public static void main(String[] args) {
        promise25Place();
        promise26Grace();
        promise27Hold();
        promise28Leave();
        promise29About();
        promise30Ballot();
        promise30LongBallots();
        promise31Refused();
        promise31And32Rounds();
        promise31Ties();
        promise31Ages();
        promise31OfNumber0();
        promise33Without();
        promise34And35Livings();
        Checks.end();
    }
}
