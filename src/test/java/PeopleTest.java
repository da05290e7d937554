/** Promises 1 to 10: a new object, days, people, kin and what is known of them. */
public final class PeopleTest {
    private static void promise1NewObject() {
        CollegeHouse house = new CollegeHouse();
        Checks.due("1: NONE", CollegeHouse.NONE, -1);
        for (int what = 0; what <= 18; what++) {
            Checks.due("1: status " + what, house.status(what), 0);
        }
        for (int s = 0; s < 10; s++) {
            Checks.due("1: holds " + s, house.holds(s), -1);
        }
        Checks.due("1: nobody is there", house.is(0, 0, 0, 0), -1);
        Checks.due("1: first words", house.words(3, 0, 0, 0), 'w');
        Checks.due("1: grace", house.grace(7), 365);
        house.person(5);
        Checks.due("1: another object is its own", new CollegeHouse().status(0), 0);
    }

    private static void promise2Days() {
        CollegeHouse house = new CollegeHouse();
        Checks.due("2: 0 days", house.days(0), -6);
        Checks.due("2: -1 days", house.days(-1), -6);
        Checks.due("2: least int", house.days(Integer.MIN_VALUE), -6);
        Checks.due("2: 4001 days", house.days(4001), -6);
        Checks.due("2: most int", house.days(Integer.MAX_VALUE), -6);
        Checks.due("2: now stays", house.status(8), 0);
        Checks.due("2: refusals", house.status(16), 5);
        for (int i = 1; i <= 9; i++) {
            Checks.due("2: 4000 days", house.days(4000), 0);
            Checks.due("2: now", house.status(8), 4000 * i);
        }
        Checks.due("2: up to 39999", house.days(3999), 0);
        Checks.due("2: two days too many", house.days(2), -6);
        Checks.due("2: up to 40000", house.days(1), 0);
        Checks.due("2: no day more", house.days(1), -6);
        Checks.due("2: now at its end", house.status(8), 40000);
    }

    /** How days() ends places: notice, grace in one step, and fellows with a living. */
    private static void promise2Places() {
        CollegeHouse house = new CollegeHouse();
        for (int who = 0; who < 3; who++) {
            house.person(-8000);
            house.fact(who, 1, 1, 0);
        }
        house.place(1);
        house.place(3);
        house.place(2);
        house.grace(10);
        Checks.due("2: 0 comes", house.hold(0, 0), 1);
        Checks.due("2: 0 comes to a living", house.hold(0, 1), 1);
        Checks.due("2: 1 comes", house.hold(1, 2), 1);
        house.fact(1, 1, 0, 5);
        Checks.due("2: no end yet", house.days(4), 0);
        Checks.due("2: still so", house.about(2, 3), -1);
        Checks.due("2: notice comes", house.days(2), 0);
        Checks.due("2: notice from the new day", house.about(2, 3), 6);
        Checks.due("2: a day ahead of grace", house.days(3), 0);
        Checks.due("2: the fellow's place ends by the living", house.days(1), 1);
        Checks.due("2: it is held by none", house.about(0, 1), -1);
        Checks.due("2: the living stays", house.about(1, 1), 0);
        Checks.due("2: officer in grace", house.about(2, 1), 1);
        Checks.due("2: the last day but one", house.days(5), 0);
        Checks.due("2: grace is over", house.days(1), 1);
        Checks.due("2: nobody holds it", house.about(2, 1), -1);
        Checks.due("2: nor a notice", house.about(2, 3), -1);
        house.fact(0, 1, 0, 17);
        Checks.due("2: notice", house.days(1), 0);
        Checks.due("2: notice", house.about(1, 3), 17);
        house.fact(0, 1, 1, 18);
        Checks.due("2: who may again", house.days(9), 0);
        Checks.due("2: has no notice", house.about(1, 3), -1);
        house.grace(0);
        house.death(0, 20);
        Checks.due("2: with grace 0 it ends at once", house.days(1), 1);
    }

    private static void promise2LivingOfLater() {
        CollegeHouse house = new CollegeHouse();
        house.person(-8000);
        house.fact(0, 1, 1, 0);
        house.place(3);
        house.place(1);
        house.place(1);
        house.days(100);
        house.grace(10);
        house.hold(0, 0);
        house.hold(0, 2);
        Checks.due("2: a living of 9 days", house.days(9), 0);
        Checks.due("2: a living of 10 days", house.days(1), 1);
        Checks.due("2: the fellow's place", house.about(2, 1), -1);
        Checks.due("2: not the living", house.about(0, 1), 0);
        Checks.due("2: comes again", house.hold(0, 1), 1);
        house.leave(0);
        Checks.due("2: a living that it doesn't hold", house.days(20), 0);
        house.hold(0, 0);
        house.fact(0, 1, 0, 131);
        house.days(1);
        house.grace(0);
        Checks.due("2: the living ends ahead of the fellow's place", house.days(1), 2);
    }

    private static void promise2OpenAndFault() {
        CollegeHouse house = new CollegeHouse();
        house.person(-8000);
        house.founder(0);
        house.person(-8000);
        Checks.write(house, 0, "k=99");
        house.statute(2, 0);
        house.place(2);
        Checks.due("2: open at first", house.may(1, 2, 0, 0), 2);
        Checks.write(house, 0, "k=99");
        Checks.write(house, 1, "!w");
        Checks.due("2: amended", house.amend(2, 0, 1, 0), 0);
        Checks.due("2: comes", house.hold(1, 0), 1);
        Checks.write(house, 0, "!w");
        Checks.write(house, 1, "!k<2");
        house.amend(2, 0, 1, 10);
        Checks.due("2: before it", house.days(9), 0);
        Checks.due("2: no notice", house.about(0, 3), -1);
        house.days(1);
        Checks.due("2: open", house.may(1, 2, 10, 10), 2);
        Checks.due("2: open has notice", house.about(0, 3), 10);
        Checks.write(house, 0, "!k<2");
        Checks.write(house, 1, "!");
        house.amend(2, 0, 1, 20);
        house.days(10);
        Checks.due("2: fault", house.may(1, 2, 20, 20), 3);
        Checks.due("2: fault keeps the notice", house.about(0, 3), 10);
        Checks.due("2: ends", house.days(355), 1);
    }

    private static void promise3Person() {
        CollegeHouse house = new CollegeHouse();
        Checks.due("3: born too early", house.person(-40001), -6);
        Checks.due("3: born too late", house.person(40001), -6);
        Checks.due("3: first", house.person(-40000), 0);
        Checks.due("3: second", house.person(40000), 1);
        for (int who = 2; who < 24; who++) {
            Checks.due("3: more", house.person(who), who);
        }
        Checks.due("3: wrong ahead of too many", house.person(40001), -6);
        Checks.due("3: too many", house.person(0), -7);
        Checks.due("3: how many", house.status(0), 24);
        house.show(0, 1);
        Checks.due("3: born", house.bornIn(0), 40000);
    }

    private static void promise4Founder() {
        CollegeHouse house = new CollegeHouse();
        Checks.due("4: none yet", house.founder(0), -1);
        house.person(0);
        Checks.due("4: of lesser number", house.founder(-1), -1);
        Checks.due("4: is", house.founder(0), 1);
        Checks.due("4: was", house.founder(0), 0);
        Checks.due("4: known at all times", house.kin(0, false, -5), 0);
        house.days(100);
        house.person(0);
        Checks.due("4: later", house.founder(1), 1);
        Checks.due("4: known before", house.kin(1, false, 0), 0);
    }

    private static void promise5Link() {
        CollegeHouse house = new CollegeHouse();
        for (int who = 0; who < 6; who++) {
            house.person(0);
        }
        Checks.due("5: no child", house.link(6, 0, 0), -1);
        Checks.due("5: no parent", house.link(0, 0, -1), -1);
        Checks.due("5: nobody ahead of wrong", house.link(0, 2, 6), -1);
        Checks.due("5: link 2", house.link(0, 2, 1), -6);
        Checks.due("5: link -1", house.link(0, -1, 1), -6);
        Checks.due("5: itself", house.link(0, 0, 0), -6);
        Checks.due("5: one", house.link(1, 0, 0), 1);
        Checks.due("5: told", house.link(1, 0, 2), -6);
        Checks.due("5: another", house.link(1, 1, 0), 1);
        Checks.due("5: up", house.link(2, 1, 1), 1);
        Checks.due("5: further", house.link(3, 0, 2), 1);
        Checks.due("5: a ring of two", house.link(0, 0, 1), -6);
        Checks.due("5: a ring of four", house.link(0, 1, 3), -6);
        Checks.due("5: no ring", house.link(3, 1, 0), 1);
        house.days(50);
        Checks.due("5: still a ring", house.link(0, 0, 2), -6);
        Checks.due("5: a later link", house.link(0, 0, 4), 1);
        for (int who = 6; who < 24; who++) {
            house.person(0);
        }
        for (int who = 22; who >= 6; who--) {
            Checks.due("5: of the last ones", house.link(who, 1, who + 1), 1);
        }
        Checks.due("5: a long ring", house.link(23, 1, 6), -6);
        Checks.due("5: the last link of all", house.link(23, 1, 0), 1);
        house.founder(4);
        Checks.due("5: not known ahead", house.kin(3, false, 49), 99);
        Checks.due("5: known from then on", house.kin(3, false, 50), 2);
    }

    private static void promise6Fact() {
        CollegeHouse house = new CollegeHouse();
        Checks.due("6: nobody", house.fact(0, 0, 0, 0), -1);
        house.person(0);
        Checks.due("6: sort -1", house.fact(0, -1, 0, 0), -6);
        Checks.due("6: sort 4", house.fact(0, 4, 0, 0), -6);
        Checks.due("6: value -1", house.fact(0, 0, -1, 0), -6);
        Checks.due("6: value 10000", house.fact(0, 0, 10000, 0), -6);
        Checks.due("6: too early", house.fact(0, 0, 0, -40001), -6);
        Checks.due("6: too late", house.fact(0, 0, 0, 40001), -6);
        Checks.due("6: nobody first", house.fact(1, 9, -1, 0), -1);
        Checks.due("6: early", house.fact(0, 3, 9999, -40000), 1);
        Checks.due("6: late", house.fact(0, 0, 0, 40000), 2);
        for (int i = 3; i <= 400; i++) {
            Checks.due("6: more", house.fact(0, 1, i, 0), i);
        }
        Checks.due("6: wrong ahead of too many", house.fact(0, 4, 0, 0), -6);
        Checks.due("6: too many", house.fact(0, 1, 1, 0), -7);
        Checks.due("6: how many", house.status(1), 400);
        Checks.due("6: the last one told", house.is(0, 1, 0, 0), 400);
    }

    private static void promise7Death() {
        CollegeHouse house = new CollegeHouse();
        house.days(10);
        house.person(-5);
        house.person(11);
        house.fact(0, 1, 1, -100);
        Checks.due("7: nobody", house.death(2, 0), -1);
        Checks.due("7: ahead of born", house.death(0, -6), -6);
        Checks.due("7: behind now", house.death(0, 11), -6);
        Checks.due("7: who is not born", house.death(1, 10), -6);
        house.days(5);
        Checks.due("7: on a day", house.death(0, 12), 1);
        Checks.due("7: told", house.death(0, 12), -6);
        Checks.due("7: the day ahead", house.may(0, 0, 11, 15), 1);
        Checks.due("7: the day", house.may(0, 0, 12, 15), 0);
        Checks.due("7: not known yet", house.may(0, 0, 12, 14), 1);
        Checks.due("7: behind it", house.may(0, 0, 500, 15), 0);
        house.person(3);
        Checks.due("7: on the day of birth", house.death(2, 3), 1);
        Checks.due("7: today", house.death(1, 15), 1);
    }

    private static void promise8Is() {
        CollegeHouse house = new CollegeHouse();
        house.person(0);
        house.person(0);
        Checks.due("8: nothing told", house.is(0, 0, 0, 0), 0);
        house.fact(0, 0, 5, 10);
        house.fact(0, 0, 6, 20);
        house.fact(0, 0, 7, 15);
        house.fact(0, 0, 8, 20);
        house.fact(0, 2, 9, 5);
        house.fact(0, 3, 4, 5);
        Checks.due("8: terms", house.is(0, 3, 5, 0), 4);
        Checks.due("8: ahead of all", house.is(0, 0, 9, 0), 0);
        Checks.due("8: the first", house.is(0, 0, 10, 0), 5);
        Checks.due("8: the middle", house.is(0, 0, 19, 0), 7);
        Checks.due("8: of like ones the last told", house.is(0, 0, 20, 0), 8);
        Checks.due("8: long behind", house.is(0, 0, Integer.MAX_VALUE, 0), 8);
        Checks.due("8: another sort", house.is(0, 2, 100, 0), 9);
        Checks.due("8: another one", house.is(1, 0, 100, 0), 0);
        Checks.due("8: known ahead of all", house.is(0, 0, 100, -1), 0);
        house.days(3);
        house.fact(0, 0, 3, 18);
        Checks.due("8: not known", house.is(0, 0, 19, 2), 7);
        Checks.due("8: known", house.is(0, 0, 19, 3), 3);
        Checks.due("8: nobody", house.is(2, 0, 0, 0), -1);
        Checks.due("8: nobody below", house.is(-1, 0, 0, 0), -1);
        Checks.due("8: no sort", house.is(0, 4, 0, 0), -1);
        Checks.due("8: no sort below", house.is(0, -1, 0, 0), -1);
        Checks.due("8: nothing is refused", house.status(11) + house.status(16), 0);
    }

    private static void promise9Kin() {
        CollegeHouse house = new CollegeHouse();
        for (int who = 0; who < 7; who++) {
            house.person(0);
        }
        Checks.due("9: no founder", house.kin(0, false, 0), 99);
        Checks.due("9: its own unknown link", house.kin(0, true, 0), 1);
        house.founder(5);
        // 0 and 1 are children of 2; 1 and 5 are children of 3
        house.link(0, 0, 2);
        house.link(1, 0, 2);
        house.link(1, 1, 3);
        house.link(5, 0, 3);
        Checks.due("9: not of one line", house.kin(0, false, 0), 99);
        Checks.due("9: by a common parent", house.kin(1, false, 0), 2);
        Checks.due("9: the founder", house.kin(5, false, 0), 0);
        Checks.due("9: a parent of the founder", house.kin(3, false, 0), 1);
        Checks.due("9: near by the parent's link", house.kin(1, true, 0), 2);
        Checks.due("9: near below kin", house.kin(0, true, 0), 1);
        house.founder(3);
        Checks.due("9: the nearest founder", house.kin(1, false, 0), 1);
        house.days(5);
        house.link(0, 1, 4);
        Checks.due("9: near a step up", house.kin(0, true, 5), 2);
        Checks.due("9: near as it was known", house.kin(0, true, 4), 1);
        house.link(4, 0, 5);
        Checks.due("9: a longer way", house.kin(0, false, 5), 2);
        Checks.due("9: near is no more than kin", house.kin(0, true, 5), 2);
        Checks.due("9: known on -1", house.kin(1, false, -1), 99);
        Checks.due("9: nobody", house.kin(7, false, 0), -1);
        Checks.due("9: nobody near", house.kin(-1, true, 0), -1);
    }

    private static void promise10Settles() {
        CollegeHouse house = new CollegeHouse();
        for (int who = 0; who < 6; who++) {
            house.person(0);
        }
        Checks.due("10: its first link", house.settles(3), 6);
        Checks.due("10: the first link of all", house.settles(0), 0);
        house.link(3, 0, 5);
        Checks.due("10: its second link", house.settles(3), 7);
        house.link(3, 1, 1);
        Checks.due("10: the least number of one step", house.settles(3), 2);
        house.link(1, 0, 0);
        Checks.due("10: its other link", house.settles(3), 3);
        house.link(1, 1, 0);
        Checks.due("10: fewer steps, greater number", house.settles(3), 10);
        house.founder(5);
        Checks.due("10: near is kin", house.settles(3), -1);
        Checks.due("10: a founder", house.settles(5), -1);
        Checks.due("10: nobody", house.settles(6), -1);
        Checks.due("10: nobody below", house.settles(-1), -1);
    }

    public static void main(String[] args) {
        promise1NewObject();
        promise2Days();
        promise2Places();
        promise2LivingOfLater();
        promise2OpenAndFault();
        promise3Person();
        promise4Founder();
        promise5Link();
        promise6Fact();
        promise7Death();
        promise8Is();
        promise9Kin();
        promise10Settles();
        Checks.end();
    }
}
