import java.util.Arrays;

/** A college: its people, statutes, places, lands, chest and rooms. ../shared/DOC.md tells what each call does. */
public final class CollegeHouse {
    public static final int NONE = -1;

    private static final int NOBODY = -1;
    private static final int OTHER = -2;
    private static final int NOTHING = -3;
    private static final int BELOW = -4;
    private static final int BEYOND = -5;
    private static final int WRONG = -6;
    private static final int TOO_MANY = -7;

    private static final int FELLOW = 1;
    private static final int OFFICE = 2;
    private static final int LIVING = 3;
    private static final int KINDS = 4;

    private static final int LEARNING = 0;
    private static final int WED = 1;
    private static final int INCOME = 2;
    private static final int TERMS = 3;
    private static final int SORTS = 4;

    private static final int OPEN = 2;
    private static final int FAULTY = 3;

    private static final int RENTS = 0;
    private static final int FINES = 1;
    private static final int DIVIDENDS = 2;
    private static final int OTHERS = 3;
    private static final int HEADS = 4;

    private static final int YEAR = 365;
    private static final int LAST_DAY = 40_000;
    private static final int ALL_YEARS = LAST_DAY / YEAR + 1;
    private static final int LAST_LEASE_YEAR = 200;
    private static final int WEEKS = 52;
    private static final int MOST_MONEY = 99_999;
    private static final int SHELVES = 10;
    private static final int MOST_ELEMENTS = 80;
    private static final int MOST_PEOPLE = 24;
    private static final int MOST_ROOMS = 9;
    private static final int MILLION = 1_000_000;

    private final Shelf[] shelves = new Shelf[SHELVES];
    private final People people = new People();
    private final Statutes statutes = new Statutes();
    private final Law law = new Law(people, statutes);
    private final Places places = new Places(law);
    private final Choices ballots = new Choices(MOST_PEOPLE);
    private final Election election = new Election(people, places, law, ballots);
    private final Leases leases = new Leases(people);
    private final Chest chest = new Chest();
    private final Planner planner = new Planner(leases, chest);
    private final Choices wishes = new Choices(MOST_ROOMS);
    private final Rooms rooms = new Rooms(places, wishes);
    private final int[] refusals = new int[8];
    private int now = 0;

    public CollegeHouse() {
        for (int s = 0; s < SHELVES; s++) {
            shelves[s] = new Shelf();
        }
    }

    // ---- what several calls want to know

    private int refuse(int trouble) {
        refusals[-trouble]++;
        return trouble;
    }

    private static boolean within(int value, int least, int most) {
        return value >= least && value <= most;
    }

    private static boolean isShelf(int s) {
        return within(s, 0, SHELVES - 1);
    }

    private static boolean isStatute(int which) {
        return within(which, 0, KINDS - 1);
    }

    /** Why shelf s is no row: 0 if it is one. */
    private int rowTrouble(int s) {
        if (!isShelf(s)) {
            return NOBODY;
        }
        if (shelves[s].person != NONE) {
            return OTHER;
        }
        return shelves[s].sort == NONE ? NOTHING : 0;
    }

    /** Of two troubles the one that is first in the order of refusals; 0 is none. */
    private static int firstTrouble(int one, int another) {
        if (one == 0 || another == 0) {
            return one + another;
        }
        return Math.max(one, another);
    }

    private int thisYear() {
        return now / YEAR;
    }

    // ---- days and people

    public int days(int n) {
        if (!within(n, 1, 4_000) || now + n > LAST_DAY) {
            return refuse(WRONG);
        }
        now += n;
        return places.endThose(now);
    }

    public int person(int born) {
        if (!within(born, -LAST_DAY, LAST_DAY)) {
            return refuse(WRONG);
        }
        return people.count == MOST_PEOPLE ? refuse(TOO_MANY) : people.add(born);
    }

    public int founder(int who) {
        if (!people.has(who)) {
            return refuse(NOBODY);
        }
        int before = people.founders;
        people.founders |= 1 << who;
        return people.founders == before ? 0 : 1;
    }

    public int link(int who, int which, int parent) {
        if (!people.has(who) || !people.has(parent)) {
            return refuse(NOBODY);
        }
        if (!within(which, 0, 1) || !people.canLead(who, which, parent, now)) {
            return refuse(WRONG);
        }
        people.parent[2 * who + which] = parent;
        people.linkTold[2 * who + which] = now;
        return 1;
    }

    public int fact(int who, int sort, int value, int from) {
        if (!people.has(who)) {
            return refuse(NOBODY);
        }
        if (!within(sort, 0, SORTS - 1) || !within(value, 0, 9_999) || !within(from, -LAST_DAY, LAST_DAY)) {
            return refuse(WRONG);
        }
        if (people.facts == People.MOST_FACTS) {
            return refuse(TOO_MANY);
        }
        return people.tellFact(SORTS * who + sort, value, from, now);
    }

    public int death(int who, int day) {
        if (!people.has(who)) {
            return refuse(NOBODY);
        }
        if (people.deathTold[who] != NONE || day < people.born[who] || day > now) {
            return refuse(WRONG);
        }
        people.deathDay[who] = day;
        people.deathTold[who] = now;
        return 1;
    }

    public int is(int who, int sort, int a, int k) {
        if (!people.has(who) || !within(sort, 0, SORTS - 1)) {
            return NONE;
        }
        return people.valueOf(SORTS * who + sort, a, k);
    }

    public int kin(int who, boolean near, int k) {
        if (!people.has(who)) {
            return NONE;
        }
        people.measure(who, k);
        return near ? people.nearSteps : people.kinSteps;
    }

    public int settles(int who) {
        return people.has(who) ? people.settlingLink(who, now) : NONE;
    }

    // ---- shelves

    public int row(int s, int sort, int n) {
        if (!isShelf(s)) {
            return refuse(NOBODY);
        }
        if (n < 0) {
            return refuse(BELOW);
        }
        if (!within(sort, 0, SORTS - 1)) {
            return refuse(WRONG);
        }
        if (n > MOST_ELEMENTS) {
            return refuse(TOO_MANY);
        }
        shelves[s].takeRow(sort, n);
        return 1;
    }

    public int set(int s, int i, long v) {
        int trouble = rowTrouble(s);
        if (trouble != 0) {
            return refuse(trouble);
        }
        if (!shelves[s].hasElement(i)) {
            return refuse(BEYOND);
        }
        shelves[s].put(i, v);
        return 1;
    }

    public int copy(int p, int q, int i, int j, int n) {
        int trouble = firstTrouble(rowTrouble(p), rowTrouble(q));
        if (trouble != 0) {
            return refuse(trouble);
        }
        Shelf source = shelves[p];
        Shelf goal = shelves[q];
        if (source.sort != goal.sort) {
            return refuse(OTHER);
        }
        if (n < 0) {
            return refuse(BELOW);
        }
        if (!source.hasStretch(i, n) || !goal.hasStretch(j, n)) {
            return refuse(BEYOND);
        }
        System.arraycopy(source.elements, i, goal.elements, j, n);
        return 1;
    }

    public long element(int s, int i) {
        return rowTrouble(s) == 0 && shelves[s].hasElement(i) ? shelves[s].elements[i] : 0L;
    }

    public int show(int s, int who) {
        if (!isShelf(s) || who != NONE && !people.has(who)) {
            return refuse(NOBODY);
        }
        shelves[s].takePerson(who);
        return who == NONE ? 0 : 1;
    }

    public int holds(int s) {
        if (!isShelf(s)) {
            return NONE;
        }
        return shelves[s].sort == NONE ? shelves[s].person : 100 + shelves[s].sort;
    }

    public int bornIn(int s) {
        if (!isShelf(s)) {
            return refuse(NOBODY) - MILLION;
        }
        if (shelves[s].sort != NONE) {
            return refuse(OTHER) - MILLION;
        }
        int who = shelves[s].person;
        return people.has(who) ? people.born[who] : refuse(NOTHING) - MILLION;
    }

    // ---- statutes

    public int statute(int which, int s) {
        int trouble = isStatute(which) ? rowTrouble(s) : NOBODY;
        if (trouble != 0) {
            return refuse(trouble);
        }
        if (statutes.firstSize[which] != 0 || shelves[s].size == 0) {
            return refuse(WRONG);
        }
        return statutes.tellFirst(which, shelves[s]);
    }

    public int amend(int which, int s, int t, int from) {
        int trouble = isStatute(which) ? firstTrouble(rowTrouble(s), rowTrouble(t)) : NOBODY;
        if (trouble != 0) {
            return refuse(trouble);
        }
        if (!within(from, 0, LAST_DAY) || shelves[s].size == 0 || shelves[t].size == 0) {
            return refuse(WRONG);
        }
        if (statutes.amendments == Statutes.MOST_AMENDMENTS) {
            return refuse(TOO_MANY);
        }
        statutes.tellWords(shelves[s], shelves[t]);
        return statutes.tellTerms(which, from, now);
    }

    public int words(int which, int a, int k, int i) {
        if (!isStatute(which)) {
            return NONE;
        }
        statutes.compose(which, a, k);
        if (i == NONE) {
            return statutes.size;
        }
        return within(i, 0, statutes.size - 1) ? statutes.letters[i] : NONE;
    }

    public int gone(int amendment, int a, int k) {
        if (!within(amendment, 0, statutes.amendments - 1) || !statutes.inForce(amendment, a, k)) {
            return NONE;
        }
        statutes.compose(statutes.amended[amendment], a, k);
        return statutes.goneBits >>> amendment & 1;
    }

    public int fault(int which, int a, int k) {
        if (!isStatute(which)) {
            return NONE;
        }
        law.weigh(NONE, which, a, k, NONE);
        return law.faultAt;
    }

    public int may(int who, int which, int a, int k) {
        return people.has(who) && isStatute(which) ? law.weigh(who, which, a, k, NONE) : NONE;
    }

    public int test(int who, int which, int a, int k, int i) {
        if (!people.has(who) || !isStatute(which)) {
            return NONE;
        }
        law.weigh(who, which, a, k, i);
        return law.faultAt == NONE ? law.wantedValue : NONE;
    }

    // ---- places

    public int place(int kind) {
        if (!isStatute(kind)) {
            return refuse(NOBODY);
        }
        return places.count == Places.MOST ? refuse(TOO_MANY) : places.add(kind);
    }

    public int grace(int n) {
        if (!within(n, 0, 4_000)) {
            return refuse(WRONG);
        }
        int before = places.graceDays;
        places.graceDays = n;
        return before;
    }

    public int hold(int who, int place) {
        if (!people.has(who) || !places.has(place)) {
            return refuse(NOBODY);
        }
        if (places.holder[place] != NONE || !places.canTake(who, places.kind[place], now)) {
            return refuse(WRONG);
        }
        places.come(who, place, now);
        return 1;
    }

    public int leave(int place) {
        if (!places.has(place)) {
            return refuse(NOBODY);
        }
        int who = places.holder[place];
        if (who == NONE) {
            return refuse(WRONG);
        }
        places.empty(place);
        return who;
    }

    public int about(int place, int what) {
        if (!places.has(place)) {
            return NONE;
        }
        switch (what) {
            case 0: return places.kind[place];
            case 1: return places.holder[place];
            case 2: return places.came[place];
            case 3: return places.notice[place];
            default: return NONE;
        }
    }

    public int ballot(int who, int s) {
        return choiceOf(ballots, who, s);
    }

    private int choiceOf(Choices choices, int who, int s) {
        int trouble = people.has(who) ? rowTrouble(s) : NOBODY;
        if (trouble != 0) {
            return refuse(trouble);
        }
        choices.tell(who, shelves[s]);
        return shelves[s].size;
    }

    public int elect(int place, int candidates) {
        if (!places.has(place) || !people.hasAll(candidates)) {
            return refuse(NOBODY);
        }
        if (places.holder[place] != NONE || !election.canBe(places.kind[place], candidates, now)) {
            return refuse(WRONG);
        }
        int who = election.begin(candidates);
        places.come(who, place, now);
        return who;
    }

    public int votes(int i, int who) {
        return people.has(who) ? election.votesIn(i, who) : NONE;
    }

    public int without(int who) {
        return people.has(who) ? election.electedWithout(who) : NONE;
    }

    public int asked(int place) {
        return places.has(place) ? places.nextFor(place, now) : NONE;
    }

    public int answer(int place, boolean takes) {
        if (!places.has(place)) {
            return refuse(NOBODY);
        }
        int who = places.nextFor(place, now);
        if (who == NONE) {
            return refuse(WRONG);
        }
        if (takes) {
            places.come(who, place, now);
        } else {
            places.passed[place] |= 1 << who;
        }
        return who;
    }

    // ---- lands and chest

    private static boolean areTerms(int value, int coin, int corn, int week) {
        return within(value, 1, 9_999) && within(coin, 0, 999) && within(corn, 0, 999) && within(week, 0, WEEKS - 1);
    }

    public int lease(int value, int coin, int corn, int week, int full, int end) {
        if (!areTerms(value, coin, corn, week) || !within(full, 1, 40) || !within(end, 0, LAST_LEASE_YEAR)) {
            return refuse(WRONG);
        }
        if (leases.count == Leases.MOST) {
            return refuse(TOO_MANY);
        }
        leases.end[leases.count] = end;
        leases.full[leases.count] = full;
        return leases.add(value, coin, corn, week);
    }

    public int lives(int value, int coin, int corn, int week, int lives) {
        if (!people.hasAll(lives)) {
            return refuse(NOBODY);
        }
        if (!areTerms(value, coin, corn, week) || !within(Integer.bitCount(lives), 1, 3)) {
            return refuse(WRONG);
        }
        if (leases.count == Leases.MOST) {
            return refuse(TOO_MANY);
        }
        leases.lifeBits[leases.count] = lives;
        return leases.add(value, coin, corn, week);
    }

    public int price(int year, int week, int n) {
        if (!within(year, 0, LAST_LEASE_YEAR) || !within(week, 0, WEEKS - 1) || !within(n, 0, 999)
                || leases.isPriced(WEEKS * year + week)) {
            return refuse(WRONG);
        }
        return leases.prices == Leases.MOST_PRICES ? refuse(TOO_MANY) : leases.tellPrice(WEEKS * year + week, n);
    }

    public int ends(int lease) {
        return leases.has(lease) ? leases.endOf(lease) : NONE;
    }

    public int rent(int lease, int year) {
        return leases.has(lease) && within(year, 0, LAST_LEASE_YEAR) ? leases.dueIn(lease, year) : NONE;
    }

    public int table(int s) {
        int trouble = rowTrouble(s);
        if (trouble != 0) {
            return refuse(trouble);
        }
        Shelf row = shelves[s];
        for (int i = 0; i < row.size; i++) {
            if (!within(row.letter(i), 0, 10_000)) {
                return refuse(WRONG);
            }
        }
        leases.tableSize = row.copyLetters(leases.table, 0);
        return row.size;
    }

    public int renew(int lease) {
        if (!leases.has(lease)) {
            return refuse(NOBODY);
        }
        int left = leases.endOf(lease) - thisYear();
        if (leases.isForLives(lease) || left < 0) {
            return refuse(WRONG);
        }
        if (chest.isFull()) {
            return refuse(TOO_MANY);
        }
        int fine = leases.fineFor(lease, left);
        chest.enter(FINES, thisYear(), fine);
        leases.end[lease] = thisYear() + leases.full[lease];
        return fine;
    }

    public int rents() {
        if (chest.rentsYear == thisYear()) {
            return refuse(WRONG);
        }
        if (chest.isFull()) {
            return refuse(TOO_MANY);
        }
        int sum = 0;
        for (int lease = 0; lease < leases.count; lease++) {
            sum += leases.dueIn(lease, thisYear());
        }
        chest.enter(RENTS, thisYear(), sum);
        chest.rentsYear = thisYear();
        return sum;
    }

    public int kept(int who, int n) {
        if (!people.has(who)) {
            return refuse(NOBODY);
        }
        return within(n, 0, YEAR) ? chest.keep(who, n, thisYear()) : refuse(WRONG);
    }

    public int dividend(int pot) {
        if (!within(pot, 0, chest.amount) || chest.dividendYear == thisYear()) {
            return refuse(WRONG);
        }
        if (chest.isFull()) {
            return refuse(TOO_MANY);
        }
        return chest.part(pot, places.holdersOf(FELLOW), thisYear());
    }

    public int got(int who) {
        return people.has(who) ? chest.gotten[who] : NONE;
    }

    public int other(int amount) {
        if (!within(amount, -MOST_MONEY, MOST_MONEY) || chest.amount + amount < 0) {
            return refuse(WRONG);
        }
        if (chest.isFull()) {
            return refuse(TOO_MANY);
        }
        chest.enter(OTHERS, thisYear(), amount);
        return chest.amount;
    }

    public int head(int head, int year) {
        if (!within(head, 0, HEADS - 1)) {
            return NONE - MILLION;
        }
        return within(year, 0, ALL_YEARS - 1) ? chest.sums[ALL_YEARS * head + year] : 0;
    }

    public int audit(int counted) {
        return counted - chest.amount;
    }

    // ---- roofs and plans

    public int roof(int cost, int worth) {
        if (!within(cost, 1, MOST_MONEY) || !within(worth, 0, 9_999)) {
            return refuse(WRONG);
        }
        return planner.roofs == Planner.MOST_ROOFS ? refuse(TOO_MANY) : planner.addRoof(cost, worth);
    }

    private static boolean canPlan(int years, int floor, int upkeep) {
        return within(years, 1, Planner.MOST_YEARS) && within(floor, 0, MOST_MONEY) && within(upkeep, 0, MOST_MONEY);
    }

    public int plan(int years, int floor, int upkeep) {
        if (!canPlan(years, floor, upkeep)) {
            return refuse(WRONG);
        }
        planner.prepare(thisYear(), years, upkeep);
        int worth = planner.findBest(floor);
        return worth == NONE ? refuse(WRONG) : worth;
    }

    public int planned(int what) {
        return within(what, 0, Planner.MOST_ROOFS) ? planner.told(what) : NONE;
    }

    public int judge(int s, int years, int floor, int upkeep) {
        int trouble = rowTrouble(s);
        if (trouble != 0) {
            return refuse(trouble);
        }
        if (shelves[s].size < 1 + planner.roofs) {
            return refuse(BEYOND);
        }
        if (!canPlan(years, floor, upkeep)) {
            return refuse(WRONG);
        }
        planner.prepare(thisYear(), years, upkeep);
        return planner.canFollow(shelves[s]) ? planner.outcomeOf(shelves[s], floor) : refuse(WRONG);
    }

    // ---- rooms

    public int room() {
        return rooms.count == MOST_ROOMS ? refuse(TOO_MANY) : rooms.count++;
    }

    public int wish(int who, int s) {
        return choiceOf(wishes, who, s);
    }

    public int choose() {
        return rooms.chooseAll();
    }

    public int exchange() {
        return rooms.exchangeAll();
    }

    public int roomOf(int who) {
        return people.has(who) ? rooms.taken[who] : NONE;
    }

    public int status(int what) {
        switch (what) {
            case 0: return people.count;
            case 1: return people.facts;
            case 2: return statutes.amendments;
            case 3: return places.count;
            case 4: return places.howManyHeld();
            case 5: return leases.count;
            case 6: return leases.prices;
            case 7: return chest.entries;
            case 8: return now;
            case 9: return chest.amount;
            case 10: return rooms.count;
            case 18: return election.rounds;
            default: return within(what, 11, 17) ? refusals[what - 10] : NONE;
        }
    }

    /** What one shelf holds: a row, one of people, or nothing. */
    private static final class Shelf {
        final long[] elements = new long[MOST_ELEMENTS];
        int sort = NONE;
        int size = 0;
        int person = NONE;

        void takeRow(int newSort, int n) {
            Arrays.fill(elements, 0L);
            sort = newSort;
            size = n;
            person = NONE;
        }

        void takePerson(int who) {
            sort = NONE;
            size = 0;
            person = who;
        }

        boolean hasElement(int i) {
            return i >= 0 && i < size;
        }

        boolean hasStretch(int from, int n) {
            return from >= 0 && from <= size && n <= size - from;
        }

        void put(int i, long v) {
            switch (sort) {
                case 0: elements[i] = (byte) v; break;
                case 1: elements[i] = (short) v; break;
                case 2: elements[i] = (int) v; break;
                default: elements[i] = v; break;
            }
        }

        int letter(int i) {
            return (int) elements[i];
        }

        /** Copies all elements as ints to places at, at + 1, .. of a line that has room for them: how many they are. */
        int copyLetters(int[] line, int at) {
            for (int i = 0; i < size; i++) {
                line[at + i] = letter(i);
            }
            return size;
        }
    }

    /** Who there is, who comes from whom, and what is told of each and when. */
    private static final class People {
        static final int MOST_FACTS = 400;
        static final int FAR = 99;

        final int[] born = new int[MOST_PEOPLE];
        final int[] parent = new int[2 * MOST_PEOPLE];
        final int[] linkTold = new int[2 * MOST_PEOPLE];
        final int[] deathDay = new int[MOST_PEOPLE];
        final int[] deathTold = new int[MOST_PEOPLE];
        final int[] factOf = new int[MOST_FACTS];
        final int[] factValue = new int[MOST_FACTS];
        final int[] factFrom = new int[MOST_FACTS];
        final int[] factTold = new int[MOST_FACTS];
        final int[] up = new int[MOST_PEOPLE];
        final int[] founderUp = new int[MOST_PEOPLE];
        final int[] line = new int[MOST_PEOPLE];
        int count = 0;
        int founders = 0;
        int facts = 0;
        int kinSteps = FAR;
        int nearSteps = FAR;

        People() {
            Arrays.fill(linkTold, NONE);
            Arrays.fill(deathTold, NONE);
        }

        boolean has(int who) {
            return who >= 0 && who < count;
        }

        boolean hasAll(int bits) {
            return bits >>> count == 0;
        }

        int add(int day) {
            born[count] = day;
            return count++;
        }

        boolean canLead(int who, int which, int toParent, int now) {
            if (who == toParent || linkTold[2 * who + which] != NONE) {
                return false;
            }
            climb(1 << toParent, now, up);
            return up[who] == FAR;
        }

        int tellFact(int of, int value, int from, int now) {
            factOf[facts] = of;
            factValue[facts] = value;
            factFrom[facts] = from;
            factTold[facts] = now;
            return ++facts;
        }

        int valueOf(int of, int a, int k) {
            int latest = NONE;
            for (int f = 0; f < facts; f++) {
                if (factOf[f] == of && factFrom[f] <= a && factTold[f] <= k
                        && (latest == NONE || factFrom[f] >= factFrom[latest])) {
                    latest = f;
                }
            }
            return latest == NONE ? 0 : factValue[latest];
        }

        boolean isAlive(int who, int a, int k) {
            boolean isDead = deathTold[who] != NONE && deathTold[who] <= k && deathDay[who] <= a;
            return born[who] <= a && !isDead;
        }

        boolean isKnown(int link, int k) {
            return linkTold[link] != NONE && linkTold[link] <= k;
        }

        /** The least steps up to each, from the nearest of those whose bits are given. */
        void climb(int bits, int k, int[] steps) {
            int waiting = 0;
            for (int who = 0; who < MOST_PEOPLE; who++) {
                steps[who] = FAR;
                if ((bits >>> who & 1) != 0) {
                    steps[who] = 0;
                    line[waiting++] = who;
                }
            }
            for (int next = 0; next < waiting && next < MOST_PEOPLE; next++) {
                int who = line[next];
                for (int link = 2 * who; link <= 2 * who + 1; link++) {
                    if (isKnown(link, k) && steps[parent[link]] == FAR) {
                        steps[parent[link]] = steps[who] + 1;
                        line[waiting++] = parent[link];
                    }
                }
            }
        }

        /** Finds kinSteps and nearSteps of one of people. */
        void measure(int who, int k) {
            climb(1 << who, k, up);
            climb(founders, k, founderUp);
            kinSteps = FAR;
            int unknown = FAR;
            for (int one = 0; one < count; one++) {
                if (up[one] == FAR) {
                    continue;
                }
                if (founderUp[one] != FAR) {
                    kinSteps = Math.min(kinSteps, up[one] + founderUp[one]);
                }
                if (!isKnown(2 * one, k) || !isKnown(2 * one + 1, k)) {
                    unknown = Math.min(unknown, up[one] + 1);
                }
            }
            nearSteps = Math.min(kinSteps, unknown);
        }

        int settlingLink(int who, int now) {
            measure(who, now);
            if (nearSteps == kinSteps) {
                return NONE;
            }
            for (int link = 0; link < 2 * count; link++) {
                if (up[link / 2] + 1 == nearSteps && !isKnown(link, now)) {
                    return link;
                }
            }
            return NONE;
        }
    }

    /** The first texts of the statutes, their amendments, and the words that they make. */
    private static final class Statutes {
        static final int MOST_AMENDMENTS = 12;
        static final int MOST_LETTERS = 200;

        final int[] firstText = new int[KINDS * MOST_ELEMENTS];
        final int[] firstSize = new int[KINDS];
        final int[] amended = new int[MOST_AMENDMENTS];
        final int[] from = new int[MOST_AMENDMENTS];
        final int[] told = new int[MOST_AMENDMENTS];
        final int[] oldWords = new int[MOST_AMENDMENTS * MOST_ELEMENTS];
        final int[] oldSize = new int[MOST_AMENDMENTS];
        final int[] newWords = new int[MOST_AMENDMENTS * MOST_ELEMENTS];
        final int[] newSize = new int[MOST_AMENDMENTS];
        final int[] turns = new int[MOST_AMENDMENTS];
        final int[] letters = new int[MOST_LETTERS];
        int amendments = 0;
        int size = 0;
        int goneBits = 0;

        int tellFirst(int which, Shelf row) {
            firstSize[which] = row.copyLetters(firstText, MOST_ELEMENTS * which);
            return row.size;
        }

        void tellWords(Shelf older, Shelf newer) {
            oldSize[amendments] = older.copyLetters(oldWords, MOST_ELEMENTS * amendments);
            newSize[amendments] = newer.copyLetters(newWords, MOST_ELEMENTS * amendments);
        }

        int tellTerms(int which, int fromDay, int now) {
            amended[amendments] = which;
            from[amendments] = fromDay;
            told[amendments] = now;
            int turn = amendments;
            while (turn > 0 && from[turns[turn - 1]] > fromDay) {
                turns[turn] = turns[turn - 1];
                turn--;
            }
            turns[turn] = amendments;
            return amendments++;
        }

        boolean inForce(int amendment, int a, int k) {
            return told[amendment] <= k && from[amendment] <= a;
        }

        /** Makes the words of a statute: letters, size, and goneBits. */
        void compose(int which, int a, int k) {
            goneBits = 0;
            size = firstSize[which];
            if (size == 0) {
                letters[0] = 'w';
                size = 1;
            } else {
                System.arraycopy(firstText, MOST_ELEMENTS * which, letters, 0, size);
            }
            for (int turn = 0; turn < amendments; turn++) {
                int amendment = turns[turn];
                if (amended[amendment] == which && inForce(amendment, a, k) && !replace(amendment)) {
                    goneBits |= 1 << amendment;
                }
            }
        }

        boolean replace(int amendment) {
            int at = firstPlaceOf(amendment);
            int grownSize = size - oldSize[amendment] + newSize[amendment];
            if (at == NONE || grownSize > MOST_LETTERS) {
                return false;
            }
            int behind = at + oldSize[amendment];
            System.arraycopy(letters, behind, letters, at + newSize[amendment], size - behind);
            System.arraycopy(newWords, MOST_ELEMENTS * amendment, letters, at, newSize[amendment]);
            size = grownSize;
            return true;
        }

        int firstPlaceOf(int amendment) {
            for (int at = 0; at + oldSize[amendment] <= size; at++) {
                int like = 0;
                while (like < oldSize[amendment]
                        && letters[at + like] == oldWords[MOST_ELEMENTS * amendment + like]) {
                    like++;
                }
                if (like == oldSize[amendment]) {
                    return at;
                }
            }
            return NONE;
        }
    }

    /** Reads the words of a statute from left to right, and weighs them for one of people. */
    private static final class Law {
        static final int DEEPEST = 30;

        final People people;
        final Statutes statutes;
        final int[] orParts = new int[DEEPEST + 1];
        final int[] andParts = new int[DEEPEST + 1];
        final int[] nots = new int[DEEPEST + 1];
        final int[] facts = new int[SORTS];
        int years;
        int level;
        int depth;
        boolean partIsDue;
        int tests;
        int wanted;
        int wantedValue;
        int faultAt;

        Law(People people, Statutes statutes) {
            this.people = people;
            this.statutes = statutes;
        }

        /** Whether one (or NONE, to look for the fault alone) may; wantedValue is what the wanted test says. */
        int weigh(int who, int which, int a, int k, int wantedTest) {
            statutes.compose(which, a, k);
            if (who != NONE) {
                learn(who, a, k);
                people.measure(who, k);
            }
            begin(wantedTest);
            int at = 0;
            for (int steps = 0; steps < statutes.size && at < statutes.size && faultAt == NONE; steps++) {
                if (!partIsDue) {
                    at = readJoint(at);
                } else {
                    at = statutes.letters[at] == '!' || statutes.letters[at] == '(' ? readOpening(at) : readTest(at);
                }
            }
            if (faultAt == NONE && (partIsDue || level > 0)) {
                faultAt = statutes.size;
            }
            if (faultAt != NONE) {
                return FAULTY;
            }
            return who != NONE && people.isAlive(who, a, k) ? either(orParts[0], andParts[0]) : 0;
        }

        void learn(int who, int a, int k) {
            for (int sort = 0; sort < SORTS; sort++) {
                facts[sort] = people.valueOf(SORTS * who + sort, a, k);
            }
            years = Math.max(0, (int) (((long) a - people.born[who]) / YEAR));
        }

        void begin(int wantedTest) {
            wanted = wantedTest;
            wantedValue = NONE;
            tests = 0;
            faultAt = NONE;
            depth = 0;
            level = 0;
            openLevel();
        }

        void openLevel() {
            orParts[level] = 0;
            andParts[level] = 1;
            nots[level] = 0;
            partIsDue = true;
        }

        int readOpening(int at) {
            if (depth == DEEPEST) {
                faultAt = at;
                return at;
            }
            depth++;
            if (statutes.letters[at] == '!') {
                nots[level]++;
            } else {
                level++;
                openLevel();
            }
            return at + 1;
        }

        int readTest(int at) {
            int end = endOfTest(at);
            if (faultAt == NONE) {
                int value = valueOfTest(at, end);
                if (tests == wanted) {
                    wantedValue = value;
                }
                tests++;
                endPart(value);
            }
            return end;
        }

        /** Where the test that begins at a place ends; if it is none, this sets faultAt. */
        int endOfTest(int at) {
            int letter = letterAt(at);
            if (letter == 'w') {
                return at + 1;
            }
            if (letter != 'a' && letter != 'k' && letter != 'd' && letter != 'r' && letter != 't') {
                faultAt = at;
                return at;
            }
            int sign = letterAt(at + 1);
            if (sign != '<' && sign != '>' && sign != '=') {
                faultAt = at + 1;
                return at;
            }
            // behind four digits, and behind a 0 at the beginning, a digit more is a letter that can't stand
            int farthest = letterAt(at + 2) == '0' ? at + 3 : at + 6;
            int end = at + 2;
            while (end < farthest && letterAt(end) >= '0' && letterAt(end) <= '9') {
                end++;
            }
            if (end == at + 2) {
                faultAt = end;
            }
            return end;
        }

        /** A letter of the words; 0, that stands nowhere in a law, behind their end. */
        int letterAt(int at) {
            return at < statutes.size ? statutes.letters[at] : 0;
        }

        int valueOfTest(int at, int end) {
            int letter = letterAt(at);
            if (letter == 'w') {
                return facts[WED] > 0 ? 1 : 0;
            }
            int number = 0;
            for (int i = at + 2; i < end; i++) {
                number = 10 * number + letterAt(i) - '0';
            }
            int sign = letterAt(at + 1);
            return letter == 'k' ? kinTest(sign, number) : plainTest(letter, sign, number);
        }

        int plainTest(int letter, int sign, int number) {
            int value = years;
            if (letter == 'd') {
                value = facts[LEARNING];
            } else if (letter == 'r') {
                value = facts[INCOME];
            } else if (letter == 't') {
                value = facts[TERMS];
            }
            boolean isSo = sign == '<' ? value < number : sign == '>' ? value > number : value == number;
            return isSo ? 1 : 0;
        }

        int kinTest(int sign, int number) {
            int kin = people.kinSteps;
            int near = people.nearSteps;
            if (sign == '<') {
                return kin < number ? 1 : near < number ? OPEN : 0;
            }
            if (sign == '>') {
                return kin <= number ? 0 : near <= number ? OPEN : 1;
            }
            if (kin == number) {
                return near < number ? OPEN : 1;
            }
            return kin > number && near <= number ? OPEN : 0;
        }

        void endPart(int value) {
            int turned = nots[level] % 2 == 1 && value != OPEN ? 1 - value : value;
            depth -= nots[level];
            nots[level] = 0;
            andParts[level] = both(andParts[level], turned);
            partIsDue = false;
        }

        int readJoint(int at) {
            int letter = statutes.letters[at];
            if (letter == '&') {
                partIsDue = true;
            } else if (letter == '|') {
                orParts[level] = either(orParts[level], andParts[level]);
                andParts[level] = 1;
                partIsDue = true;
            } else if (letter == ')' && level > 0) {
                int value = either(orParts[level], andParts[level]);
                level--;
                depth--;
                endPart(value);
            } else {
                faultAt = at;
            }
            return at + 1;
        }

        static int both(int one, int another) {
            return one == 0 || another == 0 ? 0 : one == OPEN ? OPEN : another;
        }

        static int either(int one, int another) {
            return one == 1 || another == 1 ? 1 : one == OPEN ? OPEN : another;
        }
    }

    /** Who holds which place since when. */
    private static final class Places {
        static final int MOST = 12;

        final Law law;
        final int[] kind = new int[MOST];
        final int[] holder = new int[MOST];
        final int[] came = new int[MOST];
        final int[] notice = new int[MOST];
        final int[] passed = new int[MOST];
        final int[] seniors = new int[MOST];
        int count = 0;
        int graceDays = YEAR;

        Places(Law law) {
            this.law = law;
        }

        boolean has(int place) {
            return place >= 0 && place < count;
        }

        int add(int newKind) {
            kind[count] = newKind;
            empty(count);
            return count++;
        }

        void empty(int place) {
            holder[place] = NONE;
            came[place] = NONE;
            notice[place] = NONE;
        }

        void come(int who, int place, int now) {
            holder[place] = who;
            came[place] = now;
            notice[place] = NONE;
            passed[place] = 0;
        }

        int howManyHeld() {
            int held = 0;
            for (int place = 0; place < count; place++) {
                held += holder[place] == NONE ? 0 : 1;
            }
            return held;
        }

        /** The holders of a kind, as bits. */
        int holdersOf(int ofKind) {
            int bits = 0;
            for (int place = 0; place < count; place++) {
                if (kind[place] == ofKind && holder[place] != NONE) {
                    bits |= 1 << holder[place];
                }
            }
            return bits;
        }

        boolean canTake(int who, int ofKind, int now) {
            return (holdersOf(ofKind) >>> who & 1) == 0 && law.weigh(who, ofKind, now, now, NONE) == 1;
        }

        /** Ends the places that end as a new day comes: how many. */
        int endThose(int now) {
            int ended = 0;
            for (int place = 0; place < count; place++) {
                if (holder[place] != NONE && isOutOfGrace(place, now)) {
                    empty(place);
                    ended++;
                }
            }
            for (int place = 0; place < count; place++) {
                if (kind[place] == FELLOW && holder[place] != NONE && hasSettledLiving(holder[place], now)) {
                    empty(place);
                    ended++;
                }
            }
            return ended;
        }

        boolean isOutOfGrace(int place, int now) {
            if (law.weigh(holder[place], kind[place], now, now, NONE) == 1) {
                notice[place] = NONE;
                return false;
            }
            if (notice[place] == NONE) {
                notice[place] = now;
            }
            return now - notice[place] >= graceDays;
        }

        boolean hasSettledLiving(int who, int now) {
            for (int place = 0; place < count; place++) {
                if (kind[place] == LIVING && holder[place] == who && now - came[place] >= graceDays) {
                    return true;
                }
            }
            return false;
        }

        /** Fills seniors with the fellows' places by seniority of their holders: how many. */
        int lineUpFellows() {
            int size = 0;
            for (int place = 0; place < count; place++) {
                if (kind[place] == FELLOW && holder[place] != NONE) {
                    int at = size++;
                    while (at > 0 && isSenior(place, seniors[at - 1])) {
                        seniors[at] = seniors[at - 1];
                        at--;
                    }
                    seniors[at] = place;
                }
            }
            return size;
        }

        boolean isSenior(int place, int another) {
            if (came[place] != came[another]) {
                return came[place] < came[another];
            }
            return holder[place] < holder[another];
        }

        /** Who is to be asked for a living's place; NONE: nobody. */
        int nextFor(int place, int now) {
            if (kind[place] != LIVING || holder[place] != NONE) {
                return NONE;
            }
            int fellows = lineUpFellows();
            for (int i = 0; i < fellows; i++) {
                int who = holder[seniors[i]];
                if ((passed[place] >>> who & 1) == 0 && canTake(who, LIVING, now)) {
                    return who;
                }
            }
            return NONE;
        }
    }

    /** What each of people would have, the dearest first: of the numbers 0 to limit - 1, each once. */
    private static final class Choices {
        final int limit;
        final int[] order;
        final int[] size = new int[MOST_PEOPLE];

        Choices(int limit) {
            this.limit = limit;
            order = new int[MOST_PEOPLE * limit];
            Arrays.fill(size, NONE);
        }

        void tell(int who, Shelf row) {
            int seen = 0;
            size[who] = 0;
            for (int i = 0; i < row.size; i++) {
                int one = row.letter(i);
                if (one >= 0 && one < limit && (seen >>> one & 1) == 0) {
                    seen |= 1 << one;
                    order[limit * who + size[who]++] = one;
                }
            }
        }

        boolean has(int who) {
            return size[who] != NONE;
        }

        int firstOf(int who, int bits) {
            for (int i = 0; i < size[who]; i++) {
                int one = order[limit * who + i];
                if ((bits >>> one & 1) != 0) {
                    return one;
                }
            }
            return NONE;
        }

        /** Takes over all of another, of the same limit. */
        void takeOver(Choices another) {
            if (another.limit == limit) {
                System.arraycopy(another.order, 0, order, 0, order.length);
                System.arraycopy(another.size, 0, size, 0, size.length);
            }
        }
    }

    /** The latest election, with the ballots as they were at it. */
    private static final class Election {
        final People people;
        final Places places;
        final Law law;
        final Choices ballots;
        final Choices cast = new Choices(MOST_PEOPLE);
        final int[] votes = new int[MOST_PEOPLE * MOST_PEOPLE];
        final int[] tally = new int[MOST_PEOPLE];
        int candidates = 0;
        int electors = 0;
        int decider = NONE;
        int rounds = 0;

        Election(People people, Places places, Law law, Choices ballots) {
            this.people = people;
            this.places = places;
            this.law = law;
            this.ballots = ballots;
        }

        boolean canBe(int kind, int bits, int now) {
            if (bits == 0) {
                return false;
            }
            for (int who = 0; who < people.count; who++) {
                if ((bits >>> who & 1) != 0 && !places.canTake(who, kind, now)) {
                    return false;
                }
            }
            int voters = Integer.bitCount(withBallots());
            return voters >= 1 && 2 * voters >= Integer.bitCount(places.holdersOf(FELLOW));
        }

        int withBallots() {
            int bits = places.holdersOf(FELLOW);
            for (int who = 0; who < MOST_PEOPLE; who++) {
                if (!ballots.has(who)) {
                    bits &= ~(1 << who);
                }
            }
            return bits;
        }

        int firstOfficer() {
            for (int place = 0; place < places.count; place++) {
                if (places.kind[place] == OFFICE && places.holder[place] != NONE) {
                    return places.holder[place];
                }
            }
            return NONE;
        }

        int begin(int bits) {
            candidates = bits;
            electors = withBallots();
            decider = firstOfficer();
            cast.takeOver(ballots);
            return runRounds(bits, true);
        }

        int electedWithout(int who) {
            int rest = candidates & ~(1 << who);
            return rest == candidates || rest == 0 ? NONE : runRounds(rest, false);
        }

        int votesIn(int round, int who) {
            return round >= 0 && round < rounds ? votes[MOST_PEOPLE * round + who] : NONE;
        }

        int runRounds(int bits, boolean isWritten) {
            int standing = bits;
            int winner = NONE;
            int round = 0;
            while (winner == NONE && round < MOST_PEOPLE) {
                int given = countVotes(standing);
                if (isWritten) {
                    writeRound(round, standing);
                }
                round++;
                winner = winnerOf(standing, given);
                if (winner == NONE) {
                    standing &= ~(1 << leastOf(standing));
                }
            }
            if (isWritten) {
                rounds = round;
            }
            return winner;
        }

        int countVotes(int standing) {
            Arrays.fill(tally, 0);
            int given = 0;
            for (int who = 0; who < MOST_PEOPLE; who++) {
                int choice = (electors >>> who & 1) != 0 ? cast.firstOf(who, standing) : NONE;
                if (choice != NONE) {
                    tally[choice]++;
                    given++;
                }
            }
            return given;
        }

        void writeRound(int round, int standing) {
            for (int who = 0; who < MOST_PEOPLE; who++) {
                votes[MOST_PEOPLE * round + who] = (standing >>> who & 1) != 0 ? tally[who] : NONE;
            }
        }

        int winnerOf(int standing, int given) {
            int stand = Integer.bitCount(standing);
            for (int who = 0; who < MOST_PEOPLE; who++) {
                if ((standing >>> who & 1) != 0 && (stand == 1 || 2 * tally[who] > given)) {
                    return who;
                }
            }
            return stand == 2 ? decide(standing) : NONE;
        }

        int decide(int standing) {
            int choice = decider == NONE ? NONE : cast.firstOf(decider, standing);
            if (choice != NONE) {
                return choice;
            }
            int elder = NONE;
            for (int who = 0; who < MOST_PEOPLE; who++) {
                if ((standing >>> who & 1) != 0 && (elder == NONE || people.born[who] < people.born[elder])) {
                    elder = who;
                }
            }
            return elder;
        }

        /** Who of those that stand has fewest votes; 0 if nobody stands. */
        int leastOf(int standing) {
            int least = NONE;
            for (int who = 0; who < MOST_PEOPLE; who++) {
                if ((standing >>> who & 1) != 0 && (least == NONE || goesAhead(who, least))) {
                    least = who;
                }
            }
            return Math.max(least, 0);
        }

        /** Whether one goes out ahead of another whose number is less. */
        boolean goesAhead(int who, int another) {
            if (tally[who] != tally[another]) {
                return tally[who] < tally[another];
            }
            return people.born[who] >= people.born[another];
        }
    }

    /** The leases, the prices of corn, and the table of fines. */
    private static final class Leases {
        static final int MOST = 8;
        static final int MOST_PRICES = 200;
        static final int NOT_TOLD = 1_000;

        final People people;
        final int[] value = new int[MOST];
        final int[] coin = new int[MOST];
        final int[] corn = new int[MOST];
        final int[] week = new int[MOST];
        final int[] full = new int[MOST];
        final int[] end = new int[MOST];
        final int[] lifeBits = new int[MOST];
        final int[] priceWeek = new int[MOST_PRICES];
        final int[] price = new int[MOST_PRICES];
        final int[] table = new int[MOST_ELEMENTS];
        int count = 0;
        int prices = 0;
        int tableSize = 0;

        Leases(People people) {
            this.people = people;
        }

        boolean has(int lease) {
            return lease >= 0 && lease < count;
        }

        boolean isForLives(int lease) {
            return lifeBits[lease] != 0;
        }

        int add(int newValue, int newCoin, int newCorn, int newWeek) {
            value[count] = newValue;
            coin[count] = newCoin;
            corn[count] = newCorn;
            week[count] = newWeek;
            return count++;
        }

        boolean isPriced(int inWeek) {
            for (int i = 0; i < prices; i++) {
                if (priceWeek[i] == inWeek) {
                    return true;
                }
            }
            return false;
        }

        int tellPrice(int inWeek, int n) {
            priceWeek[prices] = inWeek;
            price[prices] = n;
            return ++prices;
        }

        /** The price of a week, or of the latest one ahead of it that has one, in whichever year. */
        int priceIn(int inWeek) {
            int latest = NONE;
            for (int i = 0; i < prices; i++) {
                if (priceWeek[i] <= inWeek && (latest == NONE || priceWeek[i] > priceWeek[latest])) {
                    latest = i;
                }
            }
            return latest == NONE ? 0 : price[latest];
        }

        int endOf(int lease) {
            if (!isForLives(lease)) {
                return end[lease];
            }
            int latest = -LAST_DAY;
            for (int who = 0; who < people.count; who++) {
                if ((lifeBits[lease] >>> who & 1) != 0) {
                    if (people.deathTold[who] == NONE) {
                        return NOT_TOLD;
                    }
                    latest = Math.max(latest, people.deathDay[who]);
                }
            }
            return latest / YEAR;
        }

        int reservedIn(int lease, int year) {
            return coin[lease] + corn[lease] * priceIn(WEEKS * year + week[lease]) / 10;
        }

        int dueIn(int lease, int year) {
            return year <= endOf(lease) ? reservedIn(lease, year) : value[lease];
        }

        int rate(int years) {
            if (tableSize == 0) {
                return 0;
            }
            return table[Math.max(0, Math.min(years, tableSize - 1))];
        }

        int fineFor(int lease, int left) {
            return Math.max(0, value[lease] * (rate(full[lease]) - rate(left)) / 100);
        }
    }

    /** The chest, and what came to it and went from it in each year under each head. */
    private static final class Chest {
        static final int MOST_ENTRIES = 400;

        final int[] sums = new int[HEADS * ALL_YEARS];
        final int[] keptDays = new int[MOST_PEOPLE];
        final int[] gotten = new int[MOST_PEOPLE];
        int amount = 0;
        int entries = 0;
        int rentsYear = NONE;
        int dividendYear = NONE;
        int keptYear = 0;

        boolean isFull() {
            return entries >= MOST_ENTRIES;
        }

        void enter(int head, int year, int sum) {
            amount += sum;
            entries++;
            sums[ALL_YEARS * head + year] += sum;
        }

        void beginYear(int year) {
            if (year != keptYear) {
                keptYear = year;
                Arrays.fill(keptDays, 0);
            }
        }

        int keep(int who, int n, int year) {
            beginYear(year);
            int before = keptDays[who];
            keptDays[who] = n;
            return before;
        }

        /** Parts a pot among those whose bits are given: how much they get. */
        int part(int pot, int sharers, int year) {
            beginYear(year);
            int days = 0;
            for (int who = 0; who < MOST_PEOPLE; who++) {
                days += (sharers >>> who & 1) * keptDays[who];
            }
            int given = 0;
            for (int who = 0; who < MOST_PEOPLE && days > 0; who++) {
                int share = (int) ((long) pot * ((sharers >>> who & 1) * keptDays[who]) / days);
                gotten[who] += share;
                given += share;
            }
            enter(DIVIDENDS, year, -given);
            dividendYear = year;
            return given;
        }
    }

    /** What to renew and when to mend, over some years from this one on. */
    private static final class Planner {
        static final int MOST_ROOFS = 2;
        static final int MOST_YEARS = 10;
        static final int NEVER_LOW = 2_000_000_000;

        final Leases leases;
        final Chest chest;
        final int[] cost = new int[MOST_ROOFS];
        final int[] worth = new int[MOST_ROOFS];
        final int[] flow = new int[MOST_YEARS];
        final int[] gain = new int[Leases.MOST * MOST_YEARS];
        final int[] balance = new int[MOST_YEARS];
        final int[] lowest = new int[MOST_YEARS + 1];
        final int[] best = new int[1 + MOST_ROOFS];
        int roofs = 0;
        int years = 1;
        int ending = 0;
        int bestWorth = NONE;
        int bestYears = NONE;

        Planner(Leases leases, Chest chest) {
            this.leases = leases;
            this.chest = chest;
        }

        int addRoof(int newCost, int newWorth) {
            cost[roofs] = newCost;
            worth[roofs] = newWorth;
            return roofs++;
        }

        int told(int what) {
            return bestYears == NONE || best[what] == bestYears && what > 0 ? NONE : best[what];
        }

        /** What each year brings if nothing is renewed (flow), and what renewing each lease adds to it (gain). */
        void prepare(int firstYear, int overYears, int upkeep) {
            years = overYears;
            ending = 0;
            Arrays.fill(flow, -upkeep);
            Arrays.fill(gain, 0);
            flow[0] += chest.amount;
            int paid = chest.rentsYear == firstYear ? 1 : 0;
            for (int lease = 0; lease < leases.count; lease++) {
                int end = leases.endOf(lease) - firstYear;
                for (int y = paid; y < years; y++) {
                    flow[y] += leases.dueIn(lease, firstYear + y);
                }
                if (!leases.isForLives(lease) && end >= 0 && end < years) {
                    ending |= 1 << lease;
                    gainByRenewing(lease, firstYear, end);
                }
            }
        }

        void gainByRenewing(int lease, int firstYear, int end) {
            int at = MOST_YEARS * lease;
            gain[at + end] = leases.fineFor(lease, 0);
            for (int y = end + 1; y < years; y++) {
                gain[at + y] = leases.reservedIn(lease, firstYear + y) - leases.value[lease];
            }
        }

        /** Finds what is in the chest behind each year, but for roofs, and the lowest from each year on. */
        void settle(int bits) {
            int sum = 0;
            for (int y = 0; y < years; y++) {
                sum += flow[y];
                for (int lease = 0; lease < leases.count; lease++) {
                    sum += (bits >>> lease & 1) * gain[MOST_YEARS * lease + y];
                }
                balance[y] = sum;
            }
            lowest[years] = NEVER_LOW;
            for (int y = years - 1; y >= 0; y--) {
                lowest[y] = Math.min(balance[y], lowest[y + 1]);
            }
        }

        /** The greatest worth; NONE if no plan keeps the floor. A year of a roof that is `years` means never. */
        int findBest(int floor) {
            bestWorth = NONE;
            for (int bits = 0; bits < 1 << leases.count; bits++) {
                if ((bits & ~ending) == 0) {
                    settle(bits);
                    if (lowest[0] >= floor) {
                        mendBest(bits, floor);
                    }
                }
            }
            return bestWorth;
        }

        void mendBest(int bits, int floor) {
            for (int one = roofs > 0 ? 0 : years; one <= years; one++) {
                if (lowest[one] - cost[0] < floor) {
                    continue;
                }
                for (int two = roofs > 1 ? 0 : years; two <= years; two++) {
                    boolean isKept = lowest[two] - cost[1] >= floor
                            && lowest[Math.max(one, two)] - cost[0] - cost[1] >= floor;
                    if (isKept && worthOf(one, two) > bestWorth) {
                        bestWorth = worthOf(one, two);
                        bestYears = years;
                        best[0] = bits;
                        best[1] = one;
                        best[2] = two;
                    }
                }
            }
        }

        int worthOf(int one, int two) {
            return balance[years - 1] + gainOfRoof(0, one) + gainOfRoof(1, two);
        }

        int gainOfRoof(int roof, int year) {
            return year < years ? worth[roof] * (years - year) - cost[roof] : 0;
        }

        boolean canFollow(Shelf row) {
            if ((row.letter(0) & ~ending) != 0) {
                return false;
            }
            for (int roof = 0; roof < roofs; roof++) {
                int year = row.letter(1 + roof);
                if (year < NONE || year >= years) {
                    return false;
                }
            }
            return true;
        }

        int yearOf(Shelf row, int roof) {
            int year = roof < roofs ? row.letter(1 + roof) : NONE;
            return year == NONE ? years : year;
        }

        /** The worth of a plan that can be followed; -10 less the first year in which the chest is below the floor. */
        int outcomeOf(Shelf row, int floor) {
            int one = yearOf(row, 0);
            int two = yearOf(row, 1);
            settle(row.letter(0));
            for (int y = 0; y < years; y++) {
                int paid = (one <= y ? cost[0] : 0) + (two <= y ? cost[1] : 0);
                if (balance[y] - paid < floor) {
                    return -10 - y;
                }
            }
            return worthOf(one, two);
        }
    }

    /** Who has which room. */
    private static final class Rooms {
        final Places places;
        final Choices wishes;
        final int[] taken = new int[MOST_PEOPLE];
        final int[] owner = new int[MOST_ROOMS];
        int count = 0;

        Rooms(Places places, Choices wishes) {
            this.places = places;
            this.wishes = wishes;
            Arrays.fill(taken, NONE);
        }

        int chooseAll() {
            int fellows = places.lineUpFellows();
            for (int i = 0; i < fellows; i++) {
                taken[places.holder[places.seniors[i]]] = NONE;
            }
            int left = (1 << count) - 1;
            for (int who = 0; who < MOST_PEOPLE; who++) {
                if (taken[who] != NONE) {
                    left &= ~(1 << taken[who]);
                }
            }
            int took = 0;
            for (int i = 0; i < fellows; i++) {
                int who = places.holder[places.seniors[i]];
                int room = wishes.firstOf(who, left);
                if (room != NONE) {
                    taken[who] = room;
                    left &= ~(1 << room);
                    took++;
                }
            }
            return took;
        }

        int exchangeAll() {
            int there = 0;
            for (int who = 0; who < MOST_PEOPLE; who++) {
                if (taken[who] != NONE) {
                    there |= 1 << taken[who];
                    owner[taken[who]] = who;
                }
            }
            int all = there;
            for (int rings = 0; rings < MOST_ROOMS && there != 0; rings++) {
                there &= ~closeRing(there);
            }
            int changed = 0;
            for (int room = 0; room < MOST_ROOMS; room++) {
                if ((all >>> room & 1) != 0 && taken[owner[room]] != room) {
                    changed++;
                }
            }
            return changed;
        }

        /** Finds a ring of those that are there, and exchanges its rooms: which they are, as bits. */
        int closeRing(int there) {
            int room = 0;
            while (room < MOST_ROOMS - 1 && (there >>> room & 1) == 0) {
                room++;
            }
            for (int steps = 0; steps < MOST_ROOMS; steps++) {
                room = wantedFor(room, there);
            }
            int ring = 0;
            for (int steps = 0; steps < MOST_ROOMS && (ring >>> room & 1) == 0; steps++) {
                ring |= 1 << room;
                int next = wantedFor(room, there);
                taken[owner[room]] = next;
                room = next;
            }
            return ring;
        }

        /** The room to which the owner of a room points, of those that are there. */
        int wantedFor(int room, int there) {
            int wanted = wishes.firstOf(owner[room], there);
            return wanted == NONE ? room : wanted;
        }
    }
}
