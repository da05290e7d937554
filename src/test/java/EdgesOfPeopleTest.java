/**
 * Promises 1 to 10 at their edges, sentence by sentence: each method bears the promise's number, and each check the
 * words of the document that it holds. What is refused stands in RefusalsTest.
 */
public final class EdgesOfPeopleTest {
    private static final int LEAST = Integer.MIN_VALUE;
    private static final int MOST = Integer.MAX_VALUE;

    private static CollegeHouse people(int howMany) {
        CollegeHouse house = new CollegeHouse();
        for (int who = 0; who < howMany; who++) {
            house.person(0);
        }
        return house;
    }

    /** One of people, wed from long ago, who holds a place of a kind. */
    private static CollegeHouse holder(int kind) {
        CollegeHouse house = new CollegeHouse();
        house.person(-9000);
        house.fact(0, 1, 1, -100);
        house.place(kind);
        Checks.due("hold", house.hold(0, 0), 1);
        return house;
    }

    private static void promise1NothingIsThere() {
        CollegeHouse house = new CollegeHouse();
        Checks.due("1: No PEOPLE", house.status(0), 0);
        Checks.due("1: number 0 is none of PEOPLE", house.founder(0), -1);
        Checks.due("1: NOW is 0", house.status(8), 0);
        Checks.due("1: a FACT may be told from NOW on, KNOWN on 0", house.person(0), 0);
        house.fact(0, 2, 9, 0);
        Checks.due("1: NOW is 0: KNOWN on 0", house.is(0, 2, 0, 0), 9);
        Checks.due("1: NOW is 0: not KNOWN on -1", house.is(0, 2, 0, -1), 0);
        Checks.due("1: SHELF 0 holds NOTHING at first", house.bornIn(0), -1_000_003);
        Checks.due("1: SHELF 9 holds NOTHING at first", house.bornIn(9), -1_000_003);
        Checks.due("1: GRACE is 365 DAYS at first", house.grace(1), 365);
        Checks.due("1: THE CHEST begins with 0", house.audit(0), 0);
        Checks.due("1: no plan() yet", house.planned(0), -1);
        Checks.due("1: no elect() yet", house.votes(0, 0), -1);
    }

    private static void promise2FarthestDay() {
        CollegeHouse house = new CollegeHouse();
        Checks.due("2: 1 DAY", house.days(1), 0);
        Checks.due("2: NOW goes on by 1", house.status(8), 1);
        Checks.due("2: 4,000 DAYS", house.days(4000), 0);
        Checks.due("2: NOW goes on by 4,000", house.status(8), 4001);
        for (int i = 0; i < 8; i++) {
            house.days(4000);
        }
        Checks.due("2: one more than 40,000 in all", house.days(4000), -6);
        Checks.due("2: NOW stays", house.status(8), 36001);
        Checks.due("2: 40,000 in all", house.days(3999), 0);
        Checks.due("2: NOW is 40,000", house.status(8), 40000);
        Checks.due("2: not a DAY more", house.days(1), -6);
    }

    private static void promise2NoticeAndGrace() {
        CollegeHouse house = holder(0);
        house.fact(0, 1, 0, 10);
        house.days(9);
        Checks.due("2: who MAY has no NOTICE", house.about(0, 3), -1);
        Checks.due("2: a holder who MAY not has NOTICE: none ends yet", house.days(1), 0);
        Checks.due("2: NOTICE from that DAY", house.about(0, 3), 10);
        Checks.due("2: NOTICE for 364 DAYS", house.days(364), 0);
        Checks.due("2: NOTICE stays, if it had it", house.about(0, 3), 10);
        Checks.due("2: NOTICE for GRACE DAYS ends", house.days(1), 1);
        Checks.due("2: the PLACE is held by none", house.about(0, 1), -1);
        Checks.due("2: none that is held by none ends", house.days(400), 0);
    }

    private static void promise2InOneStep() {
        CollegeHouse house = holder(2);
        house.fact(0, 1, 0, 10);
        Checks.due("2: in one step: NOTICE begins on the new DAY, however long ago it MAY no more",
            house.days(4000), 0);
        Checks.due("2: in one step: from that DAY", house.about(0, 3), 4000);
        Checks.due("2: more than GRACE DAYS", house.days(366), 1);
        CollegeHouse back = holder(2);
        back.fact(0, 1, 0, 10);
        back.fact(0, 1, 1, 12);
        back.days(11);
        Checks.due("2: NOTICE", back.about(0, 3), 11);
        Checks.due("2: who MAY again", back.days(364 + 365), 0);
        Checks.due("2: has none, though GRACE went by", back.about(0, 3), -1);
        back.fact(0, 1, 0, 800);
        back.days(100);
        Checks.due("2: NOTICE anew, not from the first time", back.about(0, 3), 840);
    }

    private static void promise2GraceOf0And1() {
        CollegeHouse house = holder(2);
        house.grace(0);
        house.fact(0, 1, 0, 5);
        Checks.due("2: GRACE 0: it MAY still", house.days(4), 0);
        Checks.due("2: GRACE 0: NOTICE for 0 DAYS ends", house.days(1), 1);
        CollegeHouse one = holder(2);
        one.grace(1);
        one.fact(0, 1, 0, 5);
        Checks.due("2: GRACE 1: on the DAY of NOTICE", one.days(5), 0);
        Checks.due("2: GRACE 1: a DAY behind it", one.days(1), 1);
        CollegeHouse changed = holder(2);
        changed.fact(0, 1, 0, 5);
        changed.days(5);
        changed.days(20);
        changed.grace(4000);
        Checks.due("2: a longer GRACE", changed.days(3979), 0);
        changed.grace(21);
        Checks.due("2: a shorter GRACE ends nothing by itself", changed.about(0, 1), 0);
        Checks.due("2: but as NOW goes on", changed.days(1), 1);
    }

    private static void promise2OpenAndFaultHaveNotice() {
        CollegeHouse house = holder(3);
        Checks.write(house, 0, "w");
        Checks.write(house, 1, "k<9");
        house.amend(3, 0, 1, 7);
        house.days(7);
        Checks.due("2: also OPEN", house.may(0, 3, 7, 7), 2);
        Checks.due("2: OPEN has NOTICE", house.about(0, 3), 7);
        CollegeHouse fault = holder(3);
        Checks.write(fault, 0, "w");
        Checks.write(fault, 1, "(w");
        fault.amend(3, 0, 1, 7);
        fault.days(8);
        Checks.due("2: or a FAULT", fault.may(0, 3, 8, 8), 3);
        Checks.due("2: a FAULT has NOTICE", fault.about(0, 3), 8);
        CollegeHouse dead = holder(3);
        dead.days(3);
        dead.death(0, 3);
        Checks.due("2: DEATH gives no NOTICE by itself", dead.about(0, 3), -1);
        dead.days(1);
        Checks.due("2: from DEATH on one MAY not", dead.about(0, 3), 4);
    }

    private static void promise2FellowWithLiving() {
        CollegeHouse house = holder(1);
        house.place(3);
        house.days(1000);
        house.hold(0, 1);
        Checks.due("2: came to a LIVING 364 DAYS ago", house.days(364), 0);
        Checks.due("2: GRACE DAYS ago", house.days(1), 1);
        Checks.due("2: the FELLOW's PLACE ends", house.about(0, 1), -1);
        Checks.due("2: not the LIVING", house.about(1, 1), 0);
        house.hold(0, 0);
        Checks.due("2: or more: a LIVING of 366 DAYS", house.days(1), 1);
        house.hold(0, 0);
        house.leave(1);
        Checks.due("2: that it holds: none now", house.days(900), 0);
        house.hold(0, 1);
        house.grace(0);
        Checks.due("2: GRACE 0: a DAY behind", house.days(1), 1);
    }

    private static void promise2OfficerWithLiving() {
        CollegeHouse house = holder(2);
        house.place(3);
        house.place(0);
        house.place(1);
        house.hold(0, 1);
        house.hold(0, 2);
        house.person(-9000);
        house.fact(1, 1, 1, -100);
        house.hold(1, 3);
        Checks.due("2: a FELLOW's PLACE alone, of its own holder alone", house.days(1000), 0);
        house.leave(3);
        house.hold(0, 3);
        Checks.due("2: its own", house.days(1), 1);
        Checks.due("2: how many are held yet", house.status(4), 3);
    }

    /** Then, by PLACES: the living that ended first doesn't end the fellow's place. */
    private static void promise2ThenFellows() {
        CollegeHouse house = holder(1);
        house.place(3);
        house.hold(0, 1);
        Checks.write(house, 0, "r=0");
        house.statute(3, 0);
        house.fact(0, 2, 5, 1);
        house.days(1);
        Checks.due("2: the LIVING has NOTICE", house.about(1, 3), 1);
        Checks.due("2: the FELLOW's PLACE hasn't", house.about(0, 3), -1);
        house.grace(30);
        Checks.due("2: the LIVING alone ends: it isn't held any more", house.days(29 + 1), 1);
        Checks.due("2: the FELLOW stays", house.about(0, 1), 0);
        Checks.due("2: the LIVING is held by none", house.about(1, 1), -1);
    }

    private static void promise3BornAndHowMany() {
        CollegeHouse house = new CollegeHouse();
        Checks.due("3: PEOPLE have numbers, from 0 on", house.person(-40000), 0);
        Checks.due("3: BORN on 40,000", house.person(40000), 1);
        house.show(0, 0);
        house.show(1, 1);
        Checks.due("3: BORN on -40,000 it was", house.bornIn(0), -40000);
        Checks.due("3: BORN on 40,000 it was", house.bornIn(1), 40000);
        for (int who = 2; who < 23; who++) {
            house.person(0);
        }
        Checks.due("3: the 24th", house.person(0), 23);
        Checks.due("3: 24 at most", house.person(0), -7);
        Checks.due("3: how many", house.status(0), 24);
        Checks.due("3: the last one is there", house.founder(23), 1);
    }

    private static void promise4FounderOnce() {
        CollegeHouse house = people(24);
        Checks.due("4: 1", house.founder(23), 1);
        Checks.due("4: 0 if it was", house.founder(23), 0);
        Checks.due("4: another wasn't", house.founder(22), 1);
        Checks.due("4: KNOWN at all times", house.kin(23, false, LEAST), 0);
        Checks.due("4: the one at number 0 is none", house.kin(0, false, MOST), 99);
    }

    private static void promise5ByAllThatWasTold() {
        CollegeHouse house = people(5);
        Checks.due("5: LINK 0", house.link(0, 0, 1), 1);
        Checks.due("5: LINK 1, to the same parent", house.link(0, 1, 1), 1);
        Checks.due("5: LINK 0 was told", house.link(0, 0, 2), -6);
        Checks.due("5: LINK 1 was told", house.link(0, 1, 2), -6);
        Checks.due("5: the parent is itself", house.link(1, 0, 1), -6);
        Checks.due("5: one comes UP from the parent to it", house.link(1, 1, 0), -6);
        house.days(1);
        house.link(1, 1, 2);
        Checks.due("5: by all that was told, also in this NOW", house.link(2, 0, 0), -6);
        house.days(1);
        Checks.due("5: and by what was told long ago", house.link(2, 1, 0), -6);
        Checks.due("5: a parent of a parent is no ring", house.link(1, 0, 3), 1);
        Checks.due("5: one who comes UP to both", house.link(3, 0, 4), 1);
        Checks.due("5: nor is a LINK past one", house.link(2, 0, 4), 1);
        Checks.due("5: a LINK ahead of a refused one is unknown still", house.link(2, 1, 3), 1);
    }

    private static void promise5KnownFromTheNow() {
        CollegeHouse house = people(3);
        house.founder(1);
        house.days(10);
        house.link(0, 1, 1);
        Checks.due("5: KNOWN from the NOW on in which it was told", house.kin(0, false, 10), 1);
        Checks.due("5: not a DAY ahead", house.kin(0, false, 9), 99);
        Checks.due("5: unknown LINKS a DAY ahead", house.kin(0, true, 9), 1);
        Checks.due("5: at all later times", house.kin(0, false, MOST), 1);
    }

    private static void promise6EdgesOfAFact() {
        CollegeHouse house = people(1);
        Checks.due("6: SORT 0, value 0, from -40,000", house.fact(0, 0, 0, -40000), 1);
        Checks.due("6: SORT 3, value 9,999, from 40,000", house.fact(0, 3, 9999, 40000), 2);
        Checks.due("6: value 9,999 it is", house.is(0, 3, 40000, 0), 9999);
        Checks.due("6: not a DAY ahead", house.is(0, 3, 39999, 0), 0);
        for (int i = 3; i < 400; i++) {
            house.fact(0, 2, 7, 0);
        }
        Checks.due("6: 400 in all", house.fact(0, 2, 8, 0), 400);
        Checks.due("6: not one more", house.fact(0, 2, 9, 0), -7);
        Checks.due("6: the 400th counts", house.is(0, 2, 0, 0), 8);
        Checks.due("6: how many there are", house.status(1), 400);
    }

    private static void promise7DayOfDeath() {
        CollegeHouse house = new CollegeHouse();
        house.person(-40000);
        house.person(5);
        house.person(5);
        house.person(7);
        Checks.due("7: on the DAY on which it was BORN, long ago", house.death(0, -40000), 1);
        Checks.due("7: it was told", house.death(0, 0), -6);
        house.days(5);
        Checks.due("7: ahead of BORN", house.death(1, 4), -6);
        Checks.due("7: behind NOW", house.death(1, 6), -6);
        Checks.due("7: BORN and dead NOW", house.death(1, 5), 1);
        house.days(1);
        Checks.due("7: on NOW", house.death(2, 6), 1);
        Checks.due("7: who isn't BORN yet", house.death(3, 6), -6);
    }

    private static void promise8LatestFrom() {
        CollegeHouse house = people(2);
        Checks.due("8: else 0", house.is(0, 2, MOST, MOST), 0);
        house.fact(0, 2, 30, 10);
        house.fact(0, 2, 20, 5);
        Checks.due("8: the latest from, not the last told", house.is(0, 2, 10, 0), 30);
        Checks.due("8: from no more than a", house.is(0, 2, 9, 0), 20);
        Checks.due("8: from a itself", house.is(0, 2, 5, 0), 20);
        Checks.due("8: ahead of all", house.is(0, 2, 4, 0), 0);
        Checks.due("8: AS OF the least DAY", house.is(0, 2, LEAST, 0), 0);
        Checks.due("8: AS OF the greatest", house.is(0, 2, MOST, 0), 30);
        Checks.due("8: KNOWN on the greatest", house.is(0, 2, 10, MOST), 30);
        Checks.due("8: KNOWN on the least", house.is(0, 2, 10, LEAST), 0);
        house.days(3);
        house.fact(0, 2, 40, 10);
        Checks.due("8: of several the last told", house.is(0, 2, 10, 3), 40);
        Checks.due("8: told on k or earlier", house.is(0, 2, 10, 2), 30);
        house.fact(0, 2, 0, 10);
        Checks.due("8: of the same NOW the last told", house.is(0, 2, 10, 3), 0);
        Checks.due("8: of that SORT alone", house.is(0, 3, 10, 3), 0);
        Checks.due("8: of that one alone", house.is(1, 2, 10, 3), 0);
    }

    private static void promise9Kin() {
        CollegeHouse house = people(24);
        house.founder(0);
        Checks.due("9: itself by 0 steps", house.kin(0, false, 0), 0);
        Checks.due("9: 99 without", house.kin(1, false, 0), 99);
        Checks.due("9: NEAR is the least of KIN and 1", house.kin(0, true, 0), 0);
        Checks.due("9: its own unknown LINK: 0 and 1", house.kin(1, true, 0), 1);
        house.link(1, 0, 2);
        Checks.due("9: one unknown LINK is enough", house.kin(1, true, 0), 1);
        house.link(1, 1, 0);
        Checks.due("9: a parent who is FOUNDER", house.kin(1, false, 0), 1);
        Checks.due("9: KIN counts for NEAR", house.kin(1, true, 0), 1);
        Checks.due("9: UP alone: a parent of one of KIN", house.kin(2, false, 0), 99);
        house.link(0, 1, 2);
        Checks.due("9: from it and from a FOUNDER: 0 and 1", house.kin(2, false, 0), 1);
        house.link(3, 0, 2);
        Checks.due("9: 1 and 1 by one who is UP of both", house.kin(3, false, 0), 2);
    }

    private static void promise9LeastSteps() {
        CollegeHouse house = people(24);
        for (int who = 0; who < 11; who++) {
            house.link(who, 0, who + 1);
            house.link(who + 12, 0, who == 10 ? 11 : who + 13);
        }
        house.founder(12);
        // 0 goes up to 11 in eleven steps, and so does 12
        Checks.due("9: the sum of steps from both", house.kin(0, false, 0), 22);
        Checks.due("9: NEAR below it", house.kin(0, true, 0), 1);
        house.founder(22);
        Checks.due("9: the least over all FOUNDERS", house.kin(0, false, 0), 12);
        house.link(0, 1, 10);
        Checks.due("9: the least steps count", house.kin(0, false, 0), 3);
        house.link(12, 1, 0);
        Checks.due("9: a FOUNDER who comes from it", house.kin(0, false, 0), 1);
        Checks.due("9: a LINK down is no way UP", house.kin(11, false, 0), 1);
    }

    /** Each unknown link of one who is up by u steps: u and 1. */
    private static void promise9NearByUnknownLinks() {
        CollegeHouse house = people(8);
        house.link(0, 0, 1);
        house.link(0, 1, 2);
        Checks.due("9: unknown LINKS of one UP by 1 step", house.kin(0, true, 0), 2);
        house.link(1, 0, 3);
        house.link(1, 1, 3);
        Checks.due("9: of another UP by 1 step", house.kin(0, true, 0), 2);
        house.link(2, 0, 4);
        Checks.due("9: its LINK 1 alone", house.kin(0, true, 0), 2);
        house.days(1);
        house.link(2, 1, 4);
        Checks.due("9: of those UP by 2 steps", house.kin(0, true, 1), 3);
        Checks.due("9: as KNOWN a DAY ahead", house.kin(0, true, 0), 2);
        house.founder(3);
        Checks.due("9: KIN of 2 is less than that", house.kin(0, true, 1), 2);
        Checks.due("9: nothing is KNOWN on -1: its own LINKS", house.kin(0, true, -1), 1);
    }

    private static void promise10Settles() {
        CollegeHouse house = people(24);
        Checks.due("10: 2 times who has it and the LINK", house.settles(23), 46);
        house.link(23, 0, 5);
        Checks.due("10: LINK 1 of it", house.settles(23), 47);
        house.link(23, 1, 9);
        Checks.due("10: of those of fewest steps the least number", house.settles(23), 10);
        house.link(5, 0, 1);
        Checks.due("10: of fewest steps, though 1 has a lesser number", house.settles(23), 11);
        house.link(5, 1, 1);
        Checks.due("10: then those of the other parent", house.settles(23), 18);
        house.founder(9);
        Checks.due("10: NEAR is 2 and KIN 1", house.settles(23), -1);
        Checks.due("10: a FOUNDER itself", house.settles(9), -1);
        CollegeHouse like = people(4);
        like.link(0, 0, 1);
        like.link(0, 1, 2);
        like.link(2, 0, 3);
        like.link(2, 1, 3);
        like.founder(3);
        Checks.due("10: NEAR is KIN, both 2", like.settles(0), -1);
        like.link(1, 0, 3);
        Checks.due("10: still", like.settles(0), -1);
    }

    private static void promise10IsOfNow() {
        CollegeHouse house = people(2);
        house.days(7);
        house.link(0, 0, 1);
        Checks.due("10: NEAR is below KIN now: what was told today counts", house.settles(0), 1);
        house.link(0, 1, 1);
        Checks.due("10: and so on", house.settles(0), 2);
    }

    /** A founder's steps, too, go by links that are known. */
    private static void promise9FoundersLinks() {
        CollegeHouse house = people(4);
        house.founder(1);
        house.link(0, 0, 2);
        house.days(5);
        house.link(1, 1, 2);
        Checks.due("9: a FOUNDER's LINK that isn't KNOWN yet", house.kin(0, false, 4), 99);
        Checks.due("9: KNOWN from the NOW on in which it was told", house.kin(0, false, 5), 2);
        Checks.due("9: nor is it KNOWN for one who is UP of the FOUNDER", house.kin(2, false, 4), 99);
        Checks.due("9: then it is", house.kin(2, false, 5), 1);
        Checks.due("9: a FOUNDER is KNOWN at all times", house.kin(1, false, -1), 0);
        Checks.write(house, 0, "k=2");
        house.statute(0, 0);
        Checks.due("23: as KNOWN ahead of it: OPEN", house.may(0, 0, 5, 4), 2);
        house.link(0, 1, 3);
        Checks.due("23: as KNOWN then: NEAR is KIN", house.may(0, 0, 5, 5), 1);
    }

    private static void promise2FellowWithOffice() {
        CollegeHouse house = holder(1);
        house.place(2);
        house.place(0);
        house.hold(0, 1);
        house.hold(0, 2);
        Checks.due("2: an OFFICE and a SCHOLAR's PLACE are no LIVING", house.days(1000), 0);
        Checks.due("2: the FELLOW's PLACE is held", house.about(0, 1), 0);
        Checks.due("59: all three", house.status(4), 3);
    }

    public static void main(String[] args) {
        promise1NothingIsThere();
        promise2FarthestDay();
        promise2NoticeAndGrace();
        promise2InOneStep();
        promise2GraceOf0And1();
        promise2OpenAndFaultHaveNotice();
        promise2FellowWithLiving();
        promise2OfficerWithLiving();
        promise2FellowWithOffice();
        promise2ThenFellows();
        promise3BornAndHowMany();
        promise4FounderOnce();
        promise5ByAllThatWasTold();
        promise5KnownFromTheNow();
        promise6EdgesOfAFact();
        promise7DayOfDeath();
        promise8LatestFrom();
        promise9Kin();
        promise9LeastSteps();
        promise9NearByUnknownLinks();
        promise9FoundersLinks();
        promise10Settles();
        promise10IsOfNow();
        Checks.end();
    }
}
