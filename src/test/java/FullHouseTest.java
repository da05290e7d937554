/** All calls on a college that has as much of everything as may be: no row is too short, and nothing is left out. */
public final class FullHouseTest {
    private static CollegeHouse fullHouse() {
        CollegeHouse house = new CollegeHouse();
        for (int who = 0; who < 24; who++) {
            house.person(-9000 - who);
            house.fact(who, 1, 1, -100);
        }
        for (int p = 0; p < 12; p++) {
            house.place(1);
            Checks.due("hold", house.hold(23 - p, p), 1);
        }
        for (int l = 0; l < 7; l++) {
            Checks.due("lease", house.lease(100, 1, 10, 51, 2, l), l);
        }
        Checks.due("lives", house.lives(100, 1, 10, 51, 0xE00000), 7);
        for (int i = 0; i < 200; i++) {
            Checks.due("price", house.price(i / 52, i % 52, i), i + 1);
        }
        house.roof(10, 1);
        house.roof(20, 2);
        for (int r = 0; r < 9; r++) {
            house.room();
        }
        return house;
    }

    private static void kin() {
        CollegeHouse house = new CollegeHouse();
        for (int who = 0; who < 24; who++) {
            house.person(0);
        }
        for (int who = 0; who < 23; who++) {
            house.link(who, 0, who + 1);
            house.link(who, 1, who + 1);
        }
        Checks.due("10: the last link but one", house.settles(0), 46);
        house.link(23, 0, 5);
        Checks.due("5: no ring of all", house.kin(0, true, 0), 24);
        house.founder(23);
        Checks.due("9: the longest way", house.kin(0, false, 0), 23);
        Checks.due("10: settled", house.settles(0), -1);
        Checks.due("9: from a founder", house.kin(23, false, 0), 0);
    }

    private static void ballotsAndWishes(CollegeHouse house) {
        long[] all = new long[80];
        for (int i = 0; i < 80; i++) {
            all[i] = i;
        }
        Checks.put(house, 0, all);
        Checks.put(house, 1, 7, 3);
        Checks.due("30: two", house.ballot(23, 1), 2);
        for (int who = 12; who < 23; who++) {
            house.ballot(who, 0);
        }
        house.leave(11);
        // all but 23 (and 12, whose place it is) vote for 0, and 23 for 7
        Checks.due("31: of twelve", house.elect(11, 0xFFF), 0);
        Checks.due("32: of 11 electors", house.votes(0, 0), 10);
        Checks.due("32: a ballot that a longer one stands ahead of", house.votes(0, 7), 1);
        house.leave(11);
        Checks.due("31: of one", house.elect(11, 8), 3);
        house.wish(23, 1);
        for (int who = 0; who < 23; who++) {
            house.wish(who, 0);
        }
        Checks.due("56: nine take one", house.choose(), 9);
        Checks.due("56: 13 by its number", house.roomOf(13), 0);
        Checks.due("56: 3 came last", house.roomOf(3), -1);
        Checks.due("56: the last one has its wish taken", house.roomOf(23), -1);
        Checks.due("57: nobody changes", house.exchange(), 0);
    }

    private static void everyoneStands() {
        CollegeHouse house = new CollegeHouse();
        for (int who = 0; who < 24; who++) {
            house.person(who);
            house.fact(who, 1, 1, -100);
        }
        house.days(30);
        house.place(1);
        house.place(0);
        house.hold(0, 0);
        house.row(0, 0, 0);
        house.ballot(0, 0);
        Checks.due("31: all of 24 stand", house.elect(1, 0xFFFFFF), 0);
        Checks.due("59: rounds of it", house.status(18), 23);
        for (int i = 0; i < 23; i++) {
            Checks.due("32: who is the next to go out", house.votes(i, 23 - i), 0);
            Checks.due("32: who is out", house.votes(i, 24 - i), -1);
        }
        Checks.due("32: no round more", house.votes(23, 0), -1);
        Checks.due("33: without the eldest", house.without(0), 1);
    }

    private static void lands(CollegeHouse house) {
        int due = 0;
        for (int l = 0; l < 8; l++) {
            due += house.rent(l, 0);
        }
        Checks.due("40: of the last price of a year", house.rent(7, 0), 1 + 51);
        Checks.due("40: of the last price of all", house.rent(7, 200), 1 + 199);
        Checks.due("43: of eight leases", house.rents(), due);
        Checks.due("43: as much", due, 8 * 52);
        Checks.put(house, 0, 5, 5, 200);
        house.table(0);
        // in years 0 to 9 all seven leases of years end; a fine is 195 each
        Checks.due("51: over ten years", house.plan(10, 0, 0) > 0 ? 1 : 0, 1);
        Checks.put(house, 0, house.planned(0), house.planned(1), house.planned(2));
        Checks.due("53: as planned", house.judge(0, 10, 0, 0), house.plan(10, 0, 0));
        Checks.put(house, 0, 0x7F, 9, 9);
        // each of eight: 104, 156, then seven times 200; both roofs bring 3 and cost 30
        Checks.due("53: all are renewed", house.judge(0, 10, 0, 0), 416 + 8 * 1660 + 7 * 195 - 27);
        house.row(0, 1, 80);
        Checks.due("41: the longest table", house.table(0), 80);
        house.days(4000);
        for (int who = 21; who < 24; who++) {
            house.death(who, 365 * (who - 20));
        }
        Checks.due("39: of the last people", house.ends(7), 3);
    }

    private static void words() {
        CollegeHouse house = new CollegeHouse();
        Checks.write(house, 0, "a<5&".repeat(19) + "a<5&");
        Checks.due("18: the longest", house.statute(0, 0), 80);
        Checks.write(house, 1, "a<5&");
        Checks.write(house, 2, "a<5&".repeat(16));
        Checks.due("19: one", house.amend(0, 1, 2, 0), 0);
        Checks.due("19: two", house.amend(0, 1, 2, 1), 1);
        Checks.due("20: 200 letters", house.words(0, 1, 0, -1), 200);
        Checks.due("22: they end too early", house.fault(0, 1, 0), 200);
        Checks.write(house, 3, "&a<5&a<5&");
        Checks.write(house, 4, "&a<5&&a<5");
        Checks.write(house, 1, "a<5&");
        Checks.write(house, 2, "w&w&");
        for (int i = 2; i < 11; i++) {
            house.amend(0, 1, 2, i);
        }
        Checks.due("20: 200 letters still", house.words(0, 40000, 0, -1), 200);
        Checks.write(house, 1, "d");
        Checks.due("18: one letter", house.statute(1, 1), 1);
        Checks.due("22: it ends, whatever longer text was read ahead of it", house.fault(1, 0, 0), 1);
        Checks.write(house, 1, "!".repeat(80));
        house.statute(2, 1);
        Checks.due("22: too deep", house.fault(2, 0, 0), 30);
    }

    /** Words of 200 letters, that are put together by two amendments. */
    private static void lastLetters(String end, int fault) {
        int ahead = 200 - end.length();
        String text = "!".repeat(ahead % 2) + "w&".repeat(ahead / 2) + end;
        CollegeHouse house = new CollegeHouse();
        Checks.write(house, 0, text.substring(0, 79) + "X");
        house.statute(3, 0);
        Checks.write(house, 1, "X");
        Checks.write(house, 2, text.substring(79, 158) + "X");
        Checks.write(house, 3, text.substring(158));
        house.amend(3, 1, 2, 0);
        house.amend(3, 1, 3, 0);
        Checks.dueText("20: 200 letters", Checks.words(house, 3, 0, 0), text);
        Checks.due("22: ends with " + end, house.fault(3, 0, 0), fault);
    }

    public static void main(String[] args) {
        kin();
        CollegeHouse house = fullHouse();
        Checks.due("2: all stay", house.days(1), 0);
        ballotsAndWishes(house);
        everyoneStands();
        lands(house);
        words();
        lastLetters("w", -1);
        lastLetters("a", 200);
        lastLetters("a<", 200);
        lastLetters("a<9", -1);
        lastLetters("a<9999", -1);
        lastLetters("a<0", -1);
        lastLetters("a<00", 199);
        lastLetters("a<12345", 199);
        lastLetters("(", 200);
        lastLetters("!", 200);
        lastLetters("w&", 200);
        lastLetters(")", 199);
        Checks.end();
    }
}
