/**
 * Promises 25 to 35 at their edges, sentence by sentence: each method bears the promise's number, and each check the
 * words of the document that it holds. What is refused stands in RefusalsTest.
 */
public final class EdgesOfPlacesTest {
    /** Wed people, the lesser number the elder by a day. */
    private static CollegeHouse wedPeople(int howMany) {
        CollegeHouse house = new CollegeHouse();
        for (int who = 0; who < howMany; who++) {
            house.person(-9000 + who);
            house.fact(who, 1, 1, -100);
        }
        return house;
    }

    /** Fellows 0 to n - 1 at places 0 to n - 1, and a scholar's place n. */
    private static CollegeHouse fellows(int n, int people) {
        CollegeHouse house = wedPeople(people);
        for (int who = 0; who < n; who++) {
            house.place(1);
            house.hold(who, who);
        }
        house.place(0);
        return house;
    }

    private static void ballot(CollegeHouse house, int who, long... order) {
        Checks.put(house, 9, order);
        Checks.due("30: how many elements", house.ballot(who, 9), order.length);
    }

    private static void promise25Twelve() {
        CollegeHouse house = new CollegeHouse();
        for (int p = 0; p < 12; p++) {
            Checks.due("25: its number", house.place(3 - p % 4), p);
            Checks.due("25: of a KIND", house.about(p, 0), 3 - p % 4);
            Checks.due("25: held by none", house.about(p, 1), -1);
            Checks.due("25: on no DAY", house.about(p, 2), -1);
            Checks.due("25: without NOTICE", house.about(p, 3), -1);
        }
        Checks.due("25: 12 at most", house.place(3), -7);
        Checks.due("25: how many", house.status(3), 12);
        Checks.due("25: how many are held", house.status(4), 0);
    }

    private static void promise26Grace() {
        CollegeHouse house = new CollegeHouse();
        Checks.due("26: 365 DAYS at first", house.grace(0), 365);
        Checks.due("26: what it was: 0", house.grace(4000), 0);
        Checks.due("26: what it was: 4,000", house.grace(4000), 4000);
        Checks.due("26: 4,001", house.grace(4001), -6);
        Checks.due("26: the greatest int", house.grace(Integer.MAX_VALUE), -6);
        Checks.due("26: the least int", house.grace(Integer.MIN_VALUE), -6);
        Checks.due("26: a refused one changes nothing", house.grace(7), 4000);
    }

    private static void promise27SurelyOrNot() {
        CollegeHouse house = wedPeople(24);
        for (int kind = 0; kind < 4; kind++) {
            house.place(kind);
            house.place(kind);
        }
        house.days(9);
        for (int kind = 0; kind < 4; kind++) {
            Checks.due("27: one may hold several PLACES", house.hold(23, 2 * kind), 1);
            Checks.due("27: but no two of one KIND", house.hold(23, 2 * kind + 1), -6);
            Checks.due("27: came on NOW", house.about(2 * kind, 2), 9);
        }
        Checks.due("27: it is held", house.hold(0, 0), -6);
        Checks.due("27: the other of the KIND isn't", house.hold(0, 1), 1);
        house.leave(0);
        Checks.due("27: none of its KIND any more", house.hold(23, 0), 1);
        Checks.due("27: how many are held", house.status(4), 5);
    }

    private static void promise27WhoMay() {
        CollegeHouse house = wedPeople(2);
        house.place(1);
        house.fact(0, 1, 0, 5);
        house.days(4);
        Checks.due("27: MAY, AS OF NOW", house.hold(0, 0), 1);
        house.leave(0);
        house.days(1);
        Checks.due("27: MAY not, AS OF NOW", house.hold(0, 0), -6);
        house.death(1, 5);
        Checks.due("27: from DEATH on", house.hold(1, 0), -6);
        CollegeHouse unborn = new CollegeHouse();
        unborn.person(1);
        unborn.fact(0, 1, 1, 0);
        unborn.place(2);
        Checks.due("27: before BORN", unborn.hold(0, 0), -6);
        unborn.days(1);
        Checks.due("27: from BORN on", unborn.hold(0, 0), 1);
        CollegeHouse open = wedPeople(1);
        Checks.write(open, 0, "k=1");
        open.statute(1, 0);
        open.place(1);
        open.place(0);
        Checks.due("27: OPEN is not so", open.hold(0, 0), -6);
        Checks.write(open, 1, "w&");
        open.statute(0, 1);
        Checks.due("27: a FAULT is not so", open.hold(0, 1), -6);
    }

    private static void promise28And29() {
        CollegeHouse house = wedPeople(24);
        for (int p = 0; p < 12; p++) {
            house.place(p % 4);
        }
        house.days(40);
        Checks.due("27: the last one, the last PLACE", house.hold(23, 11), 1);
        Checks.due("27: number 0, PLACE 0", house.hold(0, 0), 1);
        Checks.due("29: who holds the last PLACE", house.about(11, 1), 23);
        Checks.due("29: who holds PLACE 0", house.about(0, 1), 0);
        Checks.due("29: the DAY on which it came", house.about(0, 2), 40);
        house.fact(0, 1, 0, 41);
        house.days(1);
        Checks.due("29: the DAY of its NOTICE", house.about(0, 3), 41);
        Checks.due("29: who MAY has none", house.about(11, 3), -1);
        Checks.due("28: who held it: 0", house.leave(0), 0);
        Checks.due("28: who held it: 23", house.leave(11), 23);
        Checks.due("28: none does", house.leave(0), -6);
        for (int what = 1; what < 4; what++) {
            Checks.due("29: NONE once it is given up", house.about(0, what), -1);
        }
        Checks.due("29: KIND stays", house.about(11, 0), 3);
        Checks.due("29: no PLACE 12", house.about(12, 0), -1);
        Checks.due("29: another what, far off", house.about(0, Integer.MAX_VALUE), -1);
    }

    private static void promise30AsItIsNow() {
        CollegeHouse house = fellows(1, 4);
        Checks.put(house, 0, 2);
        Checks.due("30: how many elements", house.ballot(0, 0), 1);
        house.set(0, 0, 3);
        Checks.due("31: as it was then", house.elect(1, 0b1100), 2);
        house.leave(1);
        house.show(0, -1);
        Checks.due("31: though the SHELF holds NOTHING", house.elect(1, 0b1100), 2);
        house.leave(1);
        house.row(0, 1, 80);
        Checks.due("30: 80 elements", house.ballot(0, 0), 80);
        Checks.due("31: a new BALLOT takes the old one's place", house.elect(1, 0b1101 & ~1), 2);
        Checks.due("32: no vote in that ROUND: it names 0 alone", house.votes(0, 2), 0);
    }

    /** Elements that are no candidates are passed by, at whatever place, and of whatever number. */
    private static void promise30AnyNumbers() {
        CollegeHouse house = fellows(2, 24);
        long[] all = new long[80];
        for (int i = 0; i < 80; i++) {
            all[i] = i < 26 ? i - 1 : i == 79 ? 23 : Integer.MIN_VALUE + i;
        }
        ballot(house, 0, all);
        ballot(house, 1, -1, 24, 32, 54, 1L << 31, 31, 22);
        Checks.due("31: the first that stands still counts", house.elect(2, 1 << 22 | 1 << 23), 22);
        Checks.due("32: both", house.votes(0, 22), 2);
        house.leave(2);
        Checks.putSort(house, 8, 3, (1L << 32) + 23, 22);
        house.ballot(0, 8);
        house.ballot(1, 8);
        Checks.due("30: a TEXT's numbers: of longs the lowest 32 bits", house.elect(2, 1 << 22 | 1 << 23), 23);
    }

    /** The last one's ballot names all and -1: nothing is spilled over to another's. */
    private static void promise30LastOnesBallot() {
        CollegeHouse house = wedPeople(24);
        house.place(1);
        house.place(1);
        house.place(0);
        house.hold(23, 0);
        house.hold(22, 1);
        long[] all = new long[26];
        for (int i = 0; i < 26; i++) {
            all[i] = 24 - i;
        }
        ballot(house, 23, 5);
        ballot(house, 22, all);
        Checks.due("31: 22 votes for 21", house.elect(2, 1 << 5 | 1 << 21 | 1 << 20), 5);
        Checks.due("32: one vote of 23", house.votes(0, 5), 1);
        Checks.due("32: one vote of 22", house.votes(0, 21), 1);
        ballot(house, 23, all);
        house.leave(2);
        Checks.due("31: the last one names all", house.elect(2, 1 << 5 | 1 << 21), 21);
    }

    private static void promise31Quorum() {
        for (int holders = 0; holders <= 7; holders++) {
            for (int voters = 0; voters <= holders; voters++) {
                CollegeHouse house = fellows(holders, 10);
                for (int who = 0; who < voters; who++) {
                    ballot(house, who, 8);
                }
                ballot(house, 9, 8);
                boolean isQuorum = voters >= 1 && 2 * voters >= holders;
                Checks.due("31: half of " + holders + " or more, and one at least: " + voters,
                    house.elect(holders, 1 << 8), isQuorum ? 8 : -6);
            }
        }
    }

    /** Places, not people that hold other places; an empty fellow's place doesn't count. */
    private static void promise31QuorumOfFellowsAlone() {
        CollegeHouse house = fellows(3, 10);
        house.place(2);
        house.hold(5, 4);
        ballot(house, 0, 8);
        ballot(house, 5, 8);
        Checks.due("31: an officer's BALLOT makes no QUORUM", house.elect(3, 1 << 8), -6);
        house.leave(2);
        Checks.due("31: of two holders one is half", house.elect(3, 1 << 8), 8);
        Checks.due("32: the officer doesn't vote", house.votes(0, 8), 1);
    }

    private static void promise31EmptyBallot() {
        CollegeHouse house = fellows(2, 5);
        ballot(house, 0);
        Checks.due("31: an empty BALLOT is one: QUORUM", house.elect(2, 0b11000), 3);
        Checks.due("32: no vote in that ROUND", house.votes(0, 3), 0);
        Checks.due("32: nor for the other", house.votes(0, 4), 0);
    }

    private static void promise31Candidates() {
        CollegeHouse house = fellows(1, 24);
        ballot(house, 0, 23);
        Checks.due("31: who stands alone is elected", house.elect(1, 1 << 23), 23);
        Checks.due("32: in one ROUND", house.status(18), 1);
        Checks.due("31: and comes to it", house.about(1, 1), 23);
        house.leave(1);
        Checks.due("31: alone, without a vote", house.elect(1, 1), 0);
        Checks.due("32: no vote", house.votes(0, 0), 0);
        Checks.due("33: it was alone", house.without(0), -1);
        house.leave(1);
        Checks.due("31: no CANDIDATE", house.elect(1, 0), -6);
        Checks.due("31: the elector may stand itself", house.elect(1, 1 | 1 << 23), 23);
        Checks.due("33: without it, alone", house.without(23), 0);
        house.leave(1);
        Checks.due("31: a bit of none: 24", house.elect(1, 1 << 24 | 1), -1);
        Checks.due("31: all 24", house.elect(1, (1 << 24) - 1), 23);
        Checks.due("31: it is held", house.elect(1, 1), -6);
        Checks.due("31: all bits", house.elect(1, -1), -1);
    }

    /** More than half of those given, not of all electors; half itself is not enough. */
    private static void promise31MoreThanHalf() {
        CollegeHouse house = fellows(6, 12);
        long[][] orders = {{8}, {8}, {9}, {10}, {}, {11, 11}};
        for (int who = 0; who < 6; who++) {
            ballot(house, who, orders[who]);
        }
        // stand 8, 9, 10: 2, 1, 1 of 4: half is not more than half; 10 goes, the younger: 2, 1 of 3
        Checks.due("31: half is not enough, in the first ROUND", house.elect(6, 0b111 << 8), 8);
        Checks.due("32: two ROUNDS", house.status(18), 2);
        Checks.due("32: it stands no more", house.votes(1, 10), -1);
        house.leave(6);
        ballot(house, 3);
        // 2 and 1 of 3 that are given, of 6 electors
        Checks.due("31: more than half of those given", house.elect(6, 0b111 << 8), 8);
        Checks.due("32: one ROUND", house.status(18), 1);
    }

    private static void promise31FewestOfSeveral() {
        CollegeHouse house = new CollegeHouse();
        int[] born = {0, -5000, -5000, -6000, -4000, -5000};
        for (int who = 0; who < 6; who++) {
            house.person(born[who] - 3000);
            house.fact(who, 1, 1, -9);
        }
        house.place(1);
        house.place(0);
        house.hold(0, 0);
        ballot(house, 0);
        // all have 0 votes: out go 4 (the youngest), 5, 2 (of like ones the greater number); 1 and 3 are left
        Checks.due("31: at last the elder of two", house.elect(1, 0b111110), 3);
        Checks.due("32: ROUNDS", house.status(18), 4);
        int[] out = {4, 5, 2};
        for (int i = 0; i < 3; i++) {
            Checks.due("31: stands in ROUND " + i, house.votes(i, out[i]), 0);
            Checks.due("31: stands no more in the next", house.votes(i + 1, out[i]), -1);
        }
        house.leave(1);
        ballot(house, 0, 4);
        Checks.due("31: more than half at once", house.elect(1, 0b111110), 4);
    }

    /** Who has fewest goes, though another is younger. */
    private static void promise31FewestNotYoungest() {
        CollegeHouse house = fellows(5, 9);
        ballot(house, 0, 8);
        ballot(house, 1, 8);
        ballot(house, 2, 7);
        ballot(house, 3, 7);
        ballot(house, 4, 6, 7);
        Checks.due("31: who has fewest stands no more", house.elect(5, 0b111 << 6), 7);
        Checks.due("32: 6 stands no more", house.votes(1, 6), -1);
        Checks.due("32: its vote goes to the next that stands still", house.votes(1, 7), 3);
        Checks.due("32: the youngest stands still", house.votes(1, 8), 2);
        house.leave(5);
        ballot(house, 4, 6, 8, 7);
        Checks.due("31: in order", house.elect(5, 0b111 << 6), 8);
        Checks.due("33: without who is elected", house.without(8), 7);
        Checks.due("33: without who went out", house.without(6), 8);
    }

    private static CollegeHouse evenTwo() {
        CollegeHouse house = fellows(2, 9);
        ballot(house, 0, 6);
        ballot(house, 1, 7);
        house.place(2);
        house.place(2);
        house.place(2);
        return house;
    }

    private static void promise31TwoStand() {
        CollegeHouse house = evenTwo();
        Checks.due("31: no holder of an OFFICE: the elder", house.elect(2, 0b11 << 6), 6);
        Checks.due("32: in one ROUND", house.status(18), 1);
        house.leave(2);
        house.hold(8, 4);
        Checks.due("31: the holder has no BALLOT: the elder", house.elect(2, 0b11 << 6), 6);
        house.leave(2);
        ballot(house, 8, 5, 7, 6);
        Checks.due("31: first of the two in it", house.elect(2, 0b11 << 6), 7);
        Checks.due("32: its BALLOT is no vote", house.votes(0, 7), 1);
        house.leave(2);
        house.hold(5, 3);
        Checks.due("31: the first OFFICE's PLACE that has one, though without a BALLOT: the elder",
            house.elect(2, 0b11 << 6), 6);
        house.leave(2);
        ballot(house, 5, 4, 3);
        Checks.due("31: the first OFFICE's PLACE that has one, though it names neither: the elder",
            house.elect(2, 0b11 << 6), 6);
        house.leave(2);
        house.leave(3);
        ballot(house, 1, 7);
        ballot(house, 0, 7);
        ballot(house, 8, 6);
        Checks.due("31: more than half: nobody decides", house.elect(2, 0b11 << 6), 7);
    }

    /** The elder of two is the lesser number if they are born on one day, and never by numbers alone. */
    private static void promise31Elder() {
        CollegeHouse house = new CollegeHouse();
        int[] born = {-9000, -9001, -9001, -40000};
        for (int who = 0; who < 4; who++) {
            house.person(born[who]);
            house.fact(who, 1, 1, -9);
        }
        house.place(1);
        house.place(0);
        house.hold(0, 0);
        ballot(house, 0);
        Checks.due("31: the elder, though of greater number", house.elect(1, 0b11), 1);
        house.leave(1);
        Checks.due("31: of like ones the lesser number", house.elect(1, 0b110), 1);
        Checks.due("33: without it", house.without(1), 2);
        house.leave(1);
        Checks.due("31: the elder by far", house.elect(1, 0b1001), 3);
    }

    /** The officer decides also when two are left behind rounds, and about an office's place itself. */
    private static void promise31OfficerBehindRounds() {
        CollegeHouse house = evenTwo();
        house.hold(8, 4);
        ballot(house, 8, 5, 7, 6);
        Checks.due("31: 5 has no vote", house.elect(2, 0b111 << 5), 7);
        Checks.due("32: two ROUNDS", house.status(18), 2);
        Checks.due("33: without 7: 6 has more than half", house.without(7), 6);
        Checks.due("33: without 5: the same two", house.without(5), 7);
        Checks.due("33: without 6: 7 has more than half", house.without(6), 7);
        house.leave(2);
        house.leave(4);
        Checks.due("33: the OFFICE is as it was at it", house.without(5), 7);
        Checks.due("31: to an OFFICE's PLACE", house.elect(3, 0b11 << 6), 6);
        Checks.due("33: who came by it didn't decide", house.without(7), 6);
    }

    private static void promise32And33OfTheLatest() {
        CollegeHouse house = fellows(3, 9);
        Checks.due("32: no ELECTION yet", house.votes(0, 0), -1);
        Checks.due("33: no such ELECTION", house.without(0), -1);
        Checks.due("59: ROUNDS, none yet", house.status(18), 0);
        for (int who = 0; who < 3; who++) {
            ballot(house, who, 7, 8);
        }
        house.elect(3, 0b11 << 7);
        house.place(0);
        Checks.due("31: refused", house.elect(4, 0b11 << 7), -6);
        Checks.due("32: of the latest that was not refused", house.votes(0, 7), 3);
        ballot(house, 0, 8);
        ballot(house, 1, 8);
        ballot(house, 2, 8);
        house.leave(0);
        house.leave(1);
        Checks.due("33: by the same BALLOTS and ELECTORS", house.without(8), 7);
        Checks.due("33: without the one who is elected", house.without(7), 8);
        Checks.due("32: votes stay", house.votes(0, 7), 3);
        Checks.due("31: a later one", house.elect(4, 0b11 << 5), 5);
        Checks.due("32: counts alone", house.votes(0, 7), -1);
        Checks.due("33: its CANDIDATES alone", house.without(7), -1);
        Checks.due("32: ROUND 0 of one", house.votes(0, 5), 0);
        Checks.due("32: no ROUND 1", house.votes(1, 5), -1);
        Checks.due("32: no ROUND far off", house.votes(Integer.MAX_VALUE, 5), -1);
        Checks.due("32: no ROUND far below", house.votes(Integer.MIN_VALUE, 5), -1);
    }

    private static void promise33SameBallotsAndElectors() {
        CollegeHouse house = fellows(3, 9);
        ballot(house, 0, 7);
        ballot(house, 1, 7);
        ballot(house, 2, 8);
        Checks.due("31: two of three", house.elect(3, 0b111 << 6), 7);
        Checks.due("33: without it one vote of one", house.without(7), 8);
        ballot(house, 0, 6);
        ballot(house, 1, 6);
        Checks.due("33: by the same BALLOTS", house.without(7), 8);
        house.leave(2);
        Checks.due("33: by the same ELECTORS", house.without(7), 8);
        house.hold(4, 2);
        ballot(house, 4, 6);
        Checks.due("33: not by one who came since", house.without(7), 8);
        Checks.due("33: nor is a vote of it counted anew", house.votes(0, 8), 1);
    }

    private static void promise34Seniority() {
        CollegeHouse house = wedPeople(6);
        house.place(3);
        Checks.due("34: no FELLOW", house.asked(0), -1);
        for (int p = 1; p < 6; p++) {
            house.place(1);
        }
        house.hold(4, 2);
        Checks.due("34: by the DAY on which they came", house.asked(0), 4);
        house.days(1);
        house.hold(3, 1);
        house.hold(2, 5);
        Checks.due("34: the first still", house.asked(0), 4);
        house.leave(2);
        Checks.due("34: of like ones by numbers, not by PLACES", house.asked(0), 2);
        house.hold(4, 2);
        house.days(1);
        house.hold(0, 3);
        Checks.due("34: came again: of that DAY", house.asked(0), 2);
        house.answer(0, false);
        Checks.due("34: next", house.asked(0), 3);
        house.answer(0, false);
        Checks.due("34: next", house.asked(0), 4);
        house.answer(0, false);
        Checks.due("34: the last", house.asked(0), 0);
        house.answer(0, false);
        Checks.due("34: nobody", house.asked(0), -1);
        Checks.due("35: nobody is to be asked", house.answer(0, true), -6);
        house.hold(5, 4);
        Checks.due("34: one who comes is asked", house.asked(0), 5);
    }

    private static void promise34WhoMayAndHoldsNone() {
        CollegeHouse house = fellows(3, 4);
        house.place(3);
        house.place(3);
        Checks.write(house, 0, "d=0");
        house.statute(3, 0);
        house.fact(0, 0, 1, 0);
        Checks.due("34: who MAY hold it", house.asked(4), 1);
        house.hold(1, 5);
        Checks.due("34: holds no LIVING", house.asked(4), 2);
        house.leave(5);
        Checks.due("34: none any more", house.asked(4), 1);
        Checks.due("35: takes it", house.answer(4, true), 1);
        Checks.due("34: it is held", house.asked(4), -1);
        Checks.due("34: who holds the one isn't asked for another", house.asked(5), 2);
        Checks.due("34: no FELLOW's PLACE", house.asked(0), -1);
        Checks.due("34: no scholar's PLACE", house.asked(3), -1);
        house.fact(2, 0, 1, 5);
        house.days(4);
        Checks.due("34: MAY hold it, AS OF NOW", house.asked(5), 2);
        house.days(1);
        Checks.due("34: nobody, as NOW goes on", house.asked(5), -1);
        Checks.due("35: nobody is to be asked", house.answer(5, true), -6);
    }

    /** Hasn't passed it, since it was held last; each living's place by itself. */
    private static void promise35Passed() {
        CollegeHouse house = fellows(2, 3);
        house.place(3);
        house.place(3);
        Checks.due("35: has PASSED it", house.answer(3, false), 0);
        Checks.due("34: the next", house.asked(3), 1);
        Checks.due("34: another PLACE it hasn't PASSED", house.asked(4), 0);
        house.days(2000);
        Checks.due("34: PASSED it for all days", house.asked(3), 1);
        house.hold(2, 3);
        Checks.due("34: it is held", house.asked(3), -1);
        house.leave(3);
        Checks.due("34: since it was held last nobody has", house.asked(3), 0);
        house.answer(3, false);
        Checks.due("35: takes the LIVING", house.answer(3, true), 1);
        Checks.due("35: comes to it NOW", house.about(3, 2), 2000);
        house.fact(1, 1, 0, 2001);
        house.grace(0);
        house.days(1);
        Checks.due("2: it ended", house.about(3, 1), -1);
        Checks.due("34: ended by NOTICE: nobody has PASSED it since", house.asked(3), 0);
        house.answer(3, false);
        ballot(house, 0, 2);
        Checks.due("31: a LIVING may be elected to", house.elect(3, 0b100), 2);
        house.leave(3);
        Checks.due("34: since that nobody has PASSED it", house.asked(3), 0);
    }

    /** Notice comes, and places end, as days go on; another grace alone does neither. */
    private static void promise26ChangesNoPlace() {
        CollegeHouse house = fellows(1, 1);
        house.fact(0, 1, 0, 0);
        Checks.due("23: MAY not any more", house.may(0, 1, 0, 0), 0);
        Checks.due("26: what it was", house.grace(0), 365);
        Checks.due("26: no NOTICE by itself", house.about(0, 3), -1);
        Checks.due("26: nor does a PLACE end", house.about(0, 1), 0);
        Checks.due("2: as NOW goes on", house.days(1), 1);
    }

    private static void promise30EightyElements() {
        CollegeHouse house = fellows(2, 9);
        long[] order = new long[80];
        for (int i = 0; i < 80; i++) {
            order[i] = i == 78 ? 8 : i == 79 ? 7 : i % 7;
        }
        ballot(house, 0, order);
        ballot(house, 1);
        Checks.due("31: the last but one is the first that stands", house.elect(2, 0b11 << 7), 8);
        Checks.due("32: its vote", house.votes(0, 8), 1);
        Checks.due("33: without it the last one counts", house.without(8), 7);
    }

    private static void promise33SameDecider() {
        CollegeHouse house = evenTwo();
        house.hold(8, 4);
        ballot(house, 8, 7);
        Checks.due("31: the OFFICE decides between two", house.elect(2, 0b111 << 5), 7);
        ballot(house, 8, 6);
        Checks.due("33: by its BALLOT as it was at it", house.without(5), 7);
        house.hold(4, 3);
        ballot(house, 4, 6);
        Checks.due("33: and by its holder as it was at it", house.without(5), 7);
        house.leave(2);
        Checks.due("31: a later ELECTION: the first OFFICE's PLACE that has one", house.elect(2, 0b111 << 5), 6);
        Checks.due("33: by the BALLOTS of that", house.without(5), 6);
    }

    public static void main(String[] args) {
        promise25Twelve();
        promise26Grace();
        promise26ChangesNoPlace();
        promise27SurelyOrNot();
        promise27WhoMay();
        promise28And29();
        promise30AsItIsNow();
        promise30AnyNumbers();
        promise30LastOnesBallot();
        promise30EightyElements();
        promise31Quorum();
        promise31QuorumOfFellowsAlone();
        promise31EmptyBallot();
        promise31Candidates();
        promise31MoreThanHalf();
        promise31FewestOfSeveral();
        promise31FewestNotYoungest();
        promise31TwoStand();
        promise31Elder();
        promise31OfficerBehindRounds();
        promise32And33OfTheLatest();
        promise33SameBallotsAndElectors();
        promise33SameDecider();
        promise34Seniority();
        promise34WhoMayAndHoldsNone();
        promise35Passed();
        Checks.end();
    }
}
