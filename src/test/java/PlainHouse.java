import java.util.ArrayList;
import java.util.Arrays;
import java.util.Comparator;
import java.util.HashMap;
import java.util.HashSet;
import java.util.LinkedHashMap;
import java.util.LinkedHashSet;
import java.util.List;
import java.util.Map;
import java.util.Set;
import java.util.TreeMap;

/** The document told a second time, as plainly as can be and with no care for speed: what CollegeHouse is held against. */
final class PlainHouse {
    static final int NONE = -1;
    static final int NO_KIN = 99;

    static final class Person {
        int born;
        boolean founder;
        final Integer[] parent = new Integer[2];
        final int[] parentTold = new int[2];
        Integer death;
        int deathTold;
        int[] ballot;
        int[] wish;
        int room = NONE;
        int keptDays;
        int gotten;
    }

    record Fact(int who, int sort, int value, int from, int told) { }

    record Amendment(int which, int[] a, int[] b, int from, int told) { }

    static final class Place {
        int kind;
        int holder = NONE;
        int came = NONE;
        int notice = NONE;
        final Set<Integer> passed = new HashSet<>();
    }

    static final class Lease {
        int value;
        int coin;
        int corn;
        int week;
        int full;
        int end;
        List<Integer> lives = new ArrayList<>();
    }

    record Entry(int year, int head, int amount) { }

    record Roof(int cost, int worth) { }

    /** A shelf: nothing, one of people, or a row. */
    static final class Board {
        Integer person;
        Integer sort;
        long[] row;
    }

    final List<Person> people = new ArrayList<>();
    final List<Fact> facts = new ArrayList<>();
    final List<Amendment> amendments = new ArrayList<>();
    final int[][] first = new int[4][];
    final List<Place> places = new ArrayList<>();
    final List<Lease> leases = new ArrayList<>();
    final TreeMap<Integer, Integer> prices = new TreeMap<>();
    final List<Entry> entries = new ArrayList<>();
    final Set<Integer> rentsTaken = new HashSet<>();
    final Set<Integer> parted = new HashSet<>();
    final List<Roof> roofs = new ArrayList<>();
    final Board[] boards = new Board[10];
    final int[] refused = new int[8];
    int[] table = new int[0];
    int now;
    int grace = 365;
    int roomCount;
    int[] latestPlan;

    // the latest election
    List<Map<Integer, Integer>> rounds = new ArrayList<>();
    Set<Integer> candidates = new LinkedHashSet<>();
    Map<Integer, int[]> electors = new LinkedHashMap<>();
    int[] deciding;

    PlainHouse() {
        for (int s = 0; s < 10; s++) {
            boards[s] = new Board();
        }
    }

    private int no(int number) {
        refused[-number]++;
        return number;
    }

    private boolean isPerson(int who) {
        return 0 <= who && who < people.size();
    }

    private boolean isBoard(int s) {
        return 0 <= s && s <= 9;
    }

    private static boolean in(long x, long lo, long hi) {
        return lo <= x && x <= hi;
    }

    private int year() {
        return now / 365;
    }

    // ---- promises 2 to 10

    public int days(int n) {
        if (n < 1 || n > 4000 || (long) now + n > 40000) {
            return no(-6);
        }
        int before = year();
        now += n;
        if (year() != before) {
            people.forEach(p -> p.keptDays = 0);
        }
        int ended = 0;
        for (Place p : places) {
            if (p.holder == NONE) {
                continue;
            }
            if (may(p.holder, p.kind, now, now) == 1) {
                p.notice = NONE;
                continue;
            }
            if (p.notice == NONE) {
                p.notice = now;
            }
            if (p.notice + grace <= now) {
                vacate(p);
                ended++;
            }
        }
        for (Place p : places) {
            if (p.kind != 1 || p.holder == NONE) {
                continue;
            }
            final int holder = p.holder;
            if (places.stream().anyMatch(q -> q.kind == 3 && q.holder == holder && q.came + grace <= now)) {
                vacate(p);
                ended++;
            }
        }
        return ended;
    }

    private void vacate(Place p) {
        p.holder = NONE;
        p.came = NONE;
        p.notice = NONE;
    }

    public int person(int born) {
        if (!in(born, -40000, 40000)) {
            return no(-6);
        }
        if (people.size() >= 24) {
            return no(-7);
        }
        Person p = new Person();
        p.born = born;
        people.add(p);
        return people.size() - 1;
    }

    public int founder(int who) {
        if (!isPerson(who)) {
            return no(-1);
        }
        boolean was = people.get(who).founder;
        people.get(who).founder = true;
        return was ? 0 : 1;
    }

    /** Steps to all who are UP of one, by links known on k. */
    private Map<Integer, Integer> upOf(int who, int k) {
        Map<Integer, Integer> steps = new HashMap<>();
        climb(who, 0, k, steps);
        return steps;
    }

    private void climb(int who, int height, int k, Map<Integer, Integer> steps) {
        if (steps.containsKey(who) && steps.get(who) <= height) {
            return;
        }
        steps.put(who, height);
        for (int which = 0; which < 2; which++) {
            if (knows(who, which, k)) {
                climb(people.get(who).parent[which], height + 1, k, steps);
            }
        }
    }

    private boolean knows(int who, int which, int k) {
        return people.get(who).parent[which] != null && people.get(who).parentTold[which] <= k;
    }

    public int link(int who, int which, int parent) {
        if (!isPerson(who) || !isPerson(parent)) {
            return no(-1);
        }
        if (which != 0 && which != 1 || people.get(who).parent[which] != null || parent == who
                || upOf(parent, Integer.MAX_VALUE).containsKey(who)) {
            return no(-6);
        }
        people.get(who).parent[which] = parent;
        people.get(who).parentTold[which] = now;
        return 1;
    }

    public int fact(int who, int sort, int value, int from) {
        if (!isPerson(who)) {
            return no(-1);
        }
        if (!in(sort, 0, 3) || !in(value, 0, 9999) || !in(from, -40000, 40000)) {
            return no(-6);
        }
        if (facts.size() >= 400) {
            return no(-7);
        }
        facts.add(new Fact(who, sort, value, from, now));
        return facts.size();
    }

    public int death(int who, int day) {
        if (!isPerson(who)) {
            return no(-1);
        }
        Person p = people.get(who);
        if (p.death != null || day < p.born || day > now) {
            return no(-6);
        }
        p.death = day;
        p.deathTold = now;
        return 1;
    }

    public int is(int who, int sort, int a, int k) {
        if (!isPerson(who) || !in(sort, 0, 3)) {
            return NONE;
        }
        List<Fact> fitting = new ArrayList<>(facts);
        fitting.removeIf(f -> f.who != who || f.sort != sort || f.from > a || f.told > k);
        // the sort is stable: of several with the latest from the last told comes last
        fitting.sort(Comparator.comparingInt(Fact::from));
        return fitting.isEmpty() ? 0 : fitting.get(fitting.size() - 1).value;
    }

    public int kin(int who, boolean near, int k) {
        if (!isPerson(who)) {
            return NONE;
        }
        int least = NO_KIN;
        Map<Integer, Integer> mine = upOf(who, k);
        for (int f = 0; f < people.size(); f++) {
            if (people.get(f).founder) {
                Map<Integer, Integer> his = upOf(f, k);
                for (int x : mine.keySet()) {
                    if (his.containsKey(x)) {
                        least = Math.min(least, mine.get(x) + his.get(x));
                    }
                }
            }
        }
        if (near) {
            for (int x : mine.keySet()) {
                for (int which = 0; which < 2; which++) {
                    if (!knows(x, which, k)) {
                        least = Math.min(least, mine.get(x) + 1);
                    }
                }
            }
        }
        return least;
    }

    public int settles(int who) {
        if (!isPerson(who) || kin(who, true, now) >= kin(who, false, now)) {
            return NONE;
        }
        Map<Integer, Integer> mine = upOf(who, now);
        int best = NONE;
        int bestSteps = Integer.MAX_VALUE;
        for (int number = 0; number < 2 * people.size(); number++) {
            Integer steps = mine.get(number / 2);
            if (steps != null && !knows(number / 2, number % 2, now) && steps < bestSteps) {
                best = number;
                bestSteps = steps;
            }
        }
        return best;
    }

    // ---- promises 11 to 17

    public int row(int s, int sort, int n) {
        if (!isBoard(s)) {
            return no(-1);
        }
        if (n < 0) {
            return no(-4);
        }
        if (!in(sort, 0, 3)) {
            return no(-6);
        }
        if (n > 80) {
            return no(-7);
        }
        boards[s] = new Board();
        boards[s].sort = sort;
        boards[s].row = new long[n];
        return 1;
    }

    /** The refusal of a call that wants rows on all these shelves: the first that fits; 0 if none. */
    private int rowsWanted(int... shelves) {
        for (int s : shelves) {
            if (!isBoard(s)) {
                return -1;
            }
        }
        for (int s : shelves) {
            if (boards[s].person != null) {
                return -2;
            }
        }
        for (int s : shelves) {
            if (boards[s].row == null) {
                return -3;
            }
        }
        return 0;
    }

    private static long lowest(int sort, long v) {
        int bits = 8 << sort;
        return v << 64 - bits >> 64 - bits;
    }

    private int[] ints(int s) {
        int[] line = new int[boards[s].row.length];
        for (int i = 0; i < line.length; i++) {
            line[i] = (int) boards[s].row[i];
        }
        return line;
    }

    public int set(int s, int i, long v) {
        int wrong = rowsWanted(s);
        if (wrong != 0) {
            return no(wrong);
        }
        if (i < 0 || i >= boards[s].row.length) {
            return no(-5);
        }
        boards[s].row[i] = lowest(boards[s].sort, v);
        return 1;
    }

    public int copy(int p, int q, int i, int j, int n) {
        int wrong = rowsWanted(p, q);
        if (wrong != 0) {
            return no(wrong);
        }
        if (!boards[p].sort.equals(boards[q].sort)) {
            return no(-2);
        }
        if (n < 0) {
            return no(-4);
        }
        if (i < 0 || j < 0 || (long) i + n > boards[p].row.length || (long) j + n > boards[q].row.length) {
            return no(-5);
        }
        long[] old = boards[p].row.clone();
        for (int x = 0; x < n; x++) {
            boards[q].row[j + x] = old[i + x];
        }
        return 1;
    }

    public long element(int s, int i) {
        return isBoard(s) && boards[s].row != null && in(i, 0, boards[s].row.length - 1) ? boards[s].row[i] : 0;
    }

    public int show(int s, int who) {
        if (!isBoard(s) || who != NONE && !isPerson(who)) {
            return no(-1);
        }
        boards[s] = new Board();
        if (who == NONE) {
            return 0;
        }
        boards[s].person = who;
        return 1;
    }

    public int holds(int s) {
        if (!isBoard(s)) {
            return NONE;
        }
        return boards[s].person != null ? boards[s].person : boards[s].sort != null ? 100 + boards[s].sort : NONE;
    }

    public int bornIn(int s) {
        if (!isBoard(s)) {
            no(-1);
            return -1_000_001;
        }
        if (boards[s].row != null) {
            no(-2);
            return -1_000_002;
        }
        if (boards[s].person == null) {
            no(-3);
            return -1_000_003;
        }
        return people.get(boards[s].person).born;
    }

    // ---- promises 18 to 24

    public int statute(int which, int s) {
        int wrong = in(which, 0, 3) ? rowsWanted(s) : -1;
        if (wrong != 0) {
            return no(wrong);
        }
        if (first[which] != null || ints(s).length == 0) {
            return no(-6);
        }
        first[which] = ints(s);
        return first[which].length;
    }

    public int amend(int which, int s, int t, int from) {
        int wrong = in(which, 0, 3) ? rowsWanted(s, t) : -1;
        if (wrong != 0) {
            return no(wrong);
        }
        if (!in(from, 0, 40000) || ints(s).length == 0 || ints(t).length == 0) {
            return no(-6);
        }
        if (amendments.size() >= 12) {
            return no(-7);
        }
        amendments.add(new Amendment(which, ints(s), ints(t), from, now));
        return amendments.size() - 1;
    }

    /** Words as a list of letters; `lost` gets the amendments that are gone. */
    private List<Integer> wordsOf(int which, int a, int k, Set<Integer> lost) {
        List<Integer> text = new ArrayList<>();
        for (int letter : first[which] == null ? new int[] {'w'} : first[which]) {
            text.add(letter);
        }
        List<Integer> turns = new ArrayList<>();
        for (int m = 0; m < amendments.size(); m++) {
            if (amendments.get(m).which == which && amendments.get(m).told <= k && amendments.get(m).from <= a) {
                turns.add(m);
            }
        }
        turns.sort(Comparator.comparingInt(m -> amendments.get(m).from));
        for (int m : turns) {
            List<Integer> older = listOf(amendments.get(m).a);
            List<Integer> newer = listOf(amendments.get(m).b);
            int at = java.util.Collections.indexOfSubList(text, older);
            if (at < 0 || text.size() - older.size() + newer.size() > 200) {
                lost.add(m);
                continue;
            }
            List<Integer> made = new ArrayList<>(text.subList(0, at));
            made.addAll(newer);
            made.addAll(text.subList(at + older.size(), text.size()));
            text = made;
        }
        return text;
    }

    private static List<Integer> listOf(int[] letters) {
        List<Integer> list = new ArrayList<>();
        for (int letter : letters) {
            list.add(letter);
        }
        return list;
    }

    public int words(int which, int a, int k, int i) {
        if (!in(which, 0, 3)) {
            return NONE;
        }
        List<Integer> text = wordsOf(which, a, k, new HashSet<>());
        if (i == NONE) {
            return text.size();
        }
        return in(i, 0, text.size() - 1) ? text.get(i) : NONE;
    }

    public int gone(int amendment, int a, int k) {
        if (!in(amendment, 0, amendments.size() - 1)) {
            return NONE;
        }
        Amendment m = amendments.get(amendment);
        if (m.told > k || m.from > a) {
            return NONE;
        }
        Set<Integer> lost = new HashSet<>();
        wordsOf(m.which, a, k, lost);
        return lost.contains(amendment) ? 1 : 0;
    }

    /** Reads by going down the grammar; a fault comes up as an exception that bears its place. */
    private final class Reader {
        final List<Integer> text;
        final int who;
        final int a;
        final int k;
        final List<Integer> tests = new ArrayList<>();
        int at;

        Reader(int which, int who, int a, int k) {
            text = wordsOf(which, a, k, new HashSet<>());
            this.who = who;
            this.a = a;
            this.k = k;
        }

        final class Fault extends RuntimeException {
            private static final long serialVersionUID = 1;
        }

        int peek() {
            return at < text.size() ? text.get(at) : Integer.MIN_VALUE;
        }

        /** The value of the whole; `at` is the fault if this throws. */
        int whole() {
            int value = law(0);
            if (at < text.size()) {
                throw new Fault();
            }
            return value;
        }

        int law(int depth) {
            List<Integer> parts = new ArrayList<>();
            parts.add(orPart(depth));
            while (peek() == '|') {
                at++;
                parts.add(orPart(depth));
            }
            return parts.contains(1) ? 1 : parts.contains(2) ? 2 : 0;
        }

        int orPart(int depth) {
            List<Integer> parts = new ArrayList<>();
            parts.add(andPart(depth));
            while (peek() == '&') {
                at++;
                parts.add(andPart(depth));
            }
            return parts.contains(0) ? 0 : parts.contains(2) ? 2 : 1;
        }

        int andPart(int depth) {
            if (peek() == '!') {
                deeper(depth);
                int value = andPart(depth + 1);
                return value == 2 ? 2 : 1 - value;
            }
            if (peek() == '(') {
                deeper(depth);
                int value = law(depth + 1);
                if (peek() != ')') {
                    throw new Fault();
                }
                at++;
                return value;
            }
            int value = testHere();
            tests.add(value);
            return value;
        }

        void deeper(int depth) {
            if (depth >= 30) {
                throw new Fault();
            }
            at++;
        }

        int testHere() {
            int letter = peek();
            if (letter == 'w') {
                at++;
                return who != NONE && is(who, 1, a, k) > 0 ? 1 : 0;
            }
            if (letter != 'a' && letter != 'k' && letter != 'd' && letter != 'r' && letter != 't') {
                throw new Fault();
            }
            at++;
            int sign = peek();
            if (sign != '<' && sign != '>' && sign != '=') {
                throw new Fault();
            }
            at++;
            if (!in(peek(), '0', '9')) {
                throw new Fault();
            }
            StringBuilder digits = new StringBuilder();
            while (in(peek(), '0', '9')) {
                if (digits.toString().equals("0") || digits.length() == 4) {
                    throw new Fault();
                }
                digits.append((char) peek());
                at++;
            }
            return who == NONE ? 0 : says((char) letter, (char) sign, Integer.parseInt(digits.toString()));
        }

        int says(char letter, char sign, int n) {
            if (letter == 'k') {
                int kin = kin(who, false, k);
                int near = kin(who, true, k);
                return switch (sign) {
                    case '<' -> kin < n ? 1 : near < n ? 2 : 0;
                    case '>' -> kin <= n ? 0 : near <= n ? 2 : 1;
                    default -> kin < n ? 0 : kin == n ? (near < n ? 2 : 1) : near <= n ? 2 : 0;
                };
            }
            long value = switch (letter) {
                case 'a' -> Math.max(0L, ((long) a - people.get(who).born) / 365);
                case 'd' -> is(who, 0, a, k);
                case 'r' -> is(who, 2, a, k);
                default -> is(who, 3, a, k);
            };
            int order = Long.compare(value, n);
            return (sign == '<' ? order < 0 : sign == '>' ? order > 0 : order == 0) ? 1 : 0;
        }
    }

    public int fault(int which, int a, int k) {
        if (!in(which, 0, 3)) {
            return NONE;
        }
        Reader reader = new Reader(which, NONE, a, k);
        try {
            reader.whole();
            return NONE;
        } catch (Reader.Fault fault) {
            return reader.at;
        }
    }

    public int may(int who, int which, int a, int k) {
        if (!isPerson(who) || !in(which, 0, 3)) {
            return NONE;
        }
        if (fault(which, a, k) != NONE) {
            return 3;
        }
        Person p = people.get(who);
        if (a < p.born || p.death != null && p.deathTold <= k && a >= p.death) {
            return 0;
        }
        return new Reader(which, who, a, k).whole();
    }

    public int test(int who, int which, int a, int k, int i) {
        if (!isPerson(who) || !in(which, 0, 3) || fault(which, a, k) != NONE) {
            return NONE;
        }
        Reader reader = new Reader(which, who, a, k);
        reader.whole();
        return in(i, 0, reader.tests.size() - 1) ? reader.tests.get(i) : NONE;
    }

    // ---- promises 25 to 35

    public int place(int kind) {
        if (!in(kind, 0, 3)) {
            return no(-1);
        }
        if (places.size() >= 12) {
            return no(-7);
        }
        Place p = new Place();
        p.kind = kind;
        places.add(p);
        return places.size() - 1;
    }

    public int grace(int n) {
        if (!in(n, 0, 4000)) {
            return no(-6);
        }
        int was = grace;
        grace = n;
        return was;
    }

    private boolean isPlace(int place) {
        return in(place, 0, places.size() - 1);
    }

    private boolean holdsKind(int who, int kind) {
        return places.stream().anyMatch(p -> p.kind == kind && p.holder == who);
    }

    private void comeTo(int who, int place) {
        Place p = places.get(place);
        p.holder = who;
        p.came = now;
        p.notice = NONE;
        p.passed.clear();
    }

    public int hold(int who, int place) {
        if (!isPerson(who) || !isPlace(place)) {
            return no(-1);
        }
        Place p = places.get(place);
        if (p.holder != NONE || may(who, p.kind, now, now) != 1 || holdsKind(who, p.kind)) {
            return no(-6);
        }
        comeTo(who, place);
        return 1;
    }

    public int leave(int place) {
        if (!isPlace(place)) {
            return no(-1);
        }
        int holder = places.get(place).holder;
        if (holder == NONE) {
            return no(-6);
        }
        vacate(places.get(place));
        return holder;
    }

    public int about(int place, int what) {
        if (!isPlace(place) || !in(what, 0, 3)) {
            return NONE;
        }
        Place p = places.get(place);
        return new int[] {p.kind, p.holder, p.came, p.notice}[what];
    }

    public int ballot(int who, int s) {
        int wrong = isPerson(who) ? rowsWanted(s) : -1;
        if (wrong != 0) {
            return no(wrong);
        }
        people.get(who).ballot = ints(s);
        return ints(s).length;
    }

    private static Set<Integer> setOf(int bits) {
        Set<Integer> set = new LinkedHashSet<>();
        for (int i = 0; i < 32; i++) {
            if ((bits & 1 << i) != 0) {
                set.add(i);
            }
        }
        return set;
    }

    private static int firstIn(int[] order, Set<Integer> allowed) {
        for (int one : order) {
            if (allowed.contains(one)) {
                return one;
            }
        }
        return NONE;
    }

    public int elect(int place, int bits) {
        if (!isPlace(place)) {
            return no(-1);
        }
        for (int who : setOf(bits)) {
            if (!isPerson(who)) {
                return no(-1);
            }
        }
        Place p = places.get(place);
        if (p.holder != NONE || bits == 0) {
            return no(-6);
        }
        for (int who : setOf(bits)) {
            if (may(who, p.kind, now, now) != 1 || holdsKind(who, p.kind)) {
                return no(-6);
            }
        }
        int fellows = 0;
        Map<Integer, int[]> voters = new LinkedHashMap<>();
        int[] officer = null;
        boolean officerSeen = false;
        for (Place q : places) {
            if (q.kind == 1 && q.holder != NONE) {
                fellows++;
                if (people.get(q.holder).ballot != null) {
                    voters.put(q.holder, people.get(q.holder).ballot);
                }
            }
            if (q.kind == 2 && q.holder != NONE && !officerSeen) {
                officerSeen = true;
                officer = people.get(q.holder).ballot;
            }
        }
        if (voters.isEmpty() || voters.size() * 2 < fellows) {
            return no(-6);
        }
        candidates = setOf(bits);
        electors = voters;
        deciding = officer;
        rounds = new ArrayList<>();
        int who = runElection(candidates, rounds);
        comeTo(who, place);
        return who;
    }

    private int runElection(Set<Integer> of, List<Map<Integer, Integer>> written) {
        Set<Integer> standing = new LinkedHashSet<>(of);
        while (true) {
            Map<Integer, Integer> count = new TreeMap<>();
            standing.forEach(who -> count.put(who, 0));
            int given = 0;
            for (int[] ballot : electors.values()) {
                int choice = firstIn(ballot, standing);
                if (choice != NONE) {
                    given++;
                    count.put(choice, count.get(choice) + 1);
                }
            }
            written.add(count);
            for (int who : standing) {
                if (count.get(who) > given / 2.0 || standing.size() == 1) {
                    return who;
                }
            }
            List<Integer> byAge = new ArrayList<>(standing);
            byAge.sort(Comparator.comparingInt((Integer who) -> people.get(who).born).thenComparingInt(who -> who));
            if (standing.size() == 2) {
                int choice = deciding == null ? NONE : firstIn(deciding, standing);
                return choice != NONE ? choice : byAge.get(0);
            }
            int fewest = java.util.Collections.min(count.values());
            byAge.removeIf(who -> count.get(who) != fewest);
            standing.remove(byAge.get(byAge.size() - 1));
        }
    }

    public int votes(int i, int who) {
        return in(i, 0, rounds.size() - 1) ? rounds.get(i).getOrDefault(who, NONE) : NONE;
    }

    public int without(int who) {
        if (!candidates.contains(who) || candidates.size() == 1) {
            return NONE;
        }
        Set<Integer> rest = new LinkedHashSet<>(candidates);
        rest.remove(who);
        return runElection(rest, new ArrayList<>());
    }

    private List<Integer> fellowsBySeniority() {
        List<Place> held = new ArrayList<>(places);
        held.removeIf(p -> p.kind != 1 || p.holder == NONE);
        held.sort(Comparator.comparingInt((Place p) -> p.came).thenComparingInt(p -> p.holder));
        List<Integer> fellows = new ArrayList<>();
        held.forEach(p -> fellows.add(p.holder));
        return fellows;
    }

    public int asked(int place) {
        if (!isPlace(place) || places.get(place).kind != 3 || places.get(place).holder != NONE) {
            return NONE;
        }
        for (int who : fellowsBySeniority()) {
            if (!holdsKind(who, 3) && !places.get(place).passed.contains(who) && may(who, 3, now, now) == 1) {
                return who;
            }
        }
        return NONE;
    }

    public int answer(int place, boolean takes) {
        if (!isPlace(place)) {
            return no(-1);
        }
        int who = asked(place);
        if (who == NONE) {
            return no(-6);
        }
        if (takes) {
            comeTo(who, place);
        } else {
            places.get(place).passed.add(who);
        }
        return who;
    }

    // ---- promises 36 to 49

    public int lease(int value, int coin, int corn, int week, int full, int end) {
        if (!in(value, 1, 9999) || !in(coin, 0, 999) || !in(corn, 0, 999) || !in(week, 0, 51) || !in(full, 1, 40)
                || !in(end, 0, 200)) {
            return no(-6);
        }
        return newLease(value, coin, corn, week, full, end, new ArrayList<>());
    }

    private int newLease(int value, int coin, int corn, int week, int full, int end, List<Integer> lives) {
        if (leases.size() >= 8) {
            return no(-7);
        }
        Lease l = new Lease();
        l.value = value;
        l.coin = coin;
        l.corn = corn;
        l.week = week;
        l.full = full;
        l.end = end;
        l.lives = lives;
        leases.add(l);
        return leases.size() - 1;
    }

    public int lives(int value, int coin, int corn, int week, int bits) {
        for (int who : setOf(bits)) {
            if (!isPerson(who)) {
                return no(-1);
            }
        }
        if (!in(value, 1, 9999) || !in(coin, 0, 999) || !in(corn, 0, 999) || !in(week, 0, 51)
                || !in(setOf(bits).size(), 1, 3)) {
            return no(-6);
        }
        return newLease(value, coin, corn, week, 0, 0, new ArrayList<>(setOf(bits)));
    }

    public int price(int year, int week, int n) {
        if (!in(year, 0, 200) || !in(week, 0, 51) || !in(n, 0, 999) || prices.containsKey(year * 52 + week)) {
            return no(-6);
        }
        if (prices.size() >= 200) {
            return no(-7);
        }
        prices.put(year * 52 + week, n);
        return prices.size();
    }

    private boolean isLease(int lease) {
        return in(lease, 0, leases.size() - 1);
    }

    public int ends(int lease) {
        if (!isLease(lease)) {
            return NONE;
        }
        Lease l = leases.get(lease);
        if (l.lives.isEmpty()) {
            return l.end;
        }
        int latest = Integer.MIN_VALUE;
        for (int who : l.lives) {
            if (people.get(who).death == null) {
                return 1000;
            }
            latest = Math.max(latest, people.get(who).death);
        }
        return latest / 365;
    }

    private int reserved(Lease l, int year) {
        Map.Entry<Integer, Integer> price = prices.floorEntry(year * 52 + l.week);
        return l.coin + l.corn * (price == null ? 0 : price.getValue()) / 10;
    }

    public int rent(int lease, int year) {
        if (!isLease(lease) || !in(year, 0, 200)) {
            return NONE;
        }
        return year > ends(lease) ? leases.get(lease).value : reserved(leases.get(lease), year);
    }

    public int table(int s) {
        int wrong = rowsWanted(s);
        if (wrong != 0) {
            return no(wrong);
        }
        for (int e : ints(s)) {
            if (!in(e, 0, 10000)) {
                return no(-6);
            }
        }
        table = ints(s);
        return table.length;
    }

    private int rate(int n) {
        return table.length == 0 ? 0 : n < table.length ? table[n] : table[table.length - 1];
    }

    private int fine(Lease l, int left) {
        return Math.max(0, l.value * (rate(l.full) - rate(left)) / 100);
    }

    private int chest() {
        return entries.stream().mapToInt(Entry::amount).sum();
    }

    public int renew(int lease) {
        if (!isLease(lease)) {
            return no(-1);
        }
        Lease l = leases.get(lease);
        if (!l.lives.isEmpty() || l.end < year()) {
            return no(-6);
        }
        if (entries.size() >= 400) {
            return no(-7);
        }
        int fine = fine(l, l.end - year());
        entries.add(new Entry(year(), 1, fine));
        l.end = year() + l.full;
        return fine;
    }

    public int rents() {
        if (rentsTaken.contains(year())) {
            return no(-6);
        }
        if (entries.size() >= 400) {
            return no(-7);
        }
        int sum = 0;
        for (int i = 0; i < leases.size(); i++) {
            sum += rent(i, year());
        }
        entries.add(new Entry(year(), 0, sum));
        rentsTaken.add(year());
        return sum;
    }

    public int kept(int who, int n) {
        if (!isPerson(who)) {
            return no(-1);
        }
        if (!in(n, 0, 365)) {
            return no(-6);
        }
        int was = people.get(who).keptDays;
        people.get(who).keptDays = n;
        return was;
    }

    public int dividend(int pot) {
        if (!in(pot, 0, chest()) || parted.contains(year())) {
            return no(-6);
        }
        if (entries.size() >= 400) {
            return no(-7);
        }
        long all = 0;
        for (int who : fellowsBySeniority()) {
            all += people.get(who).keptDays;
        }
        int given = 0;
        for (int who : fellowsBySeniority()) {
            int share = all == 0 ? 0 : (int) ((long) pot * people.get(who).keptDays / all);
            people.get(who).gotten += share;
            given += share;
        }
        entries.add(new Entry(year(), 2, -given));
        parted.add(year());
        return given;
    }

    public int got(int who) {
        return isPerson(who) ? people.get(who).gotten : NONE;
    }

    public int other(int amount) {
        if (!in(amount, -99999, 99999) || (long) chest() + amount < 0) {
            return no(-6);
        }
        if (entries.size() >= 400) {
            return no(-7);
        }
        entries.add(new Entry(year(), 3, amount));
        return chest();
    }

    public int head(int head, int year) {
        if (!in(head, 0, 3)) {
            return -1_000_001;
        }
        return entries.stream().filter(e -> e.head == head && e.year == year).mapToInt(Entry::amount).sum();
    }

    public int audit(int counted) {
        return counted - chest();
    }

    // ---- promises 50 to 53

    public int roof(int cost, int worth) {
        if (!in(cost, 1, 99999) || !in(worth, 0, 9999)) {
            return no(-6);
        }
        if (roofs.size() >= 2) {
            return no(-7);
        }
        roofs.add(new Roof(cost, worth));
        return roofs.size() - 1;
    }

    private boolean endsWithin(int lease, int years) {
        return leases.get(lease).lives.isEmpty() && in(leases.get(lease).end, year(), year() + years - 1);
    }

    /** Worth of a plan, walked year by year; -10 less the first year below the floor. mended[r]: -1 for never. */
    private long walk(int bits, int[] mended, int years, int floor, int upkeep) {
        long chest = chest();
        long worth = 0;
        for (int y = 0; y < years; y++) {
            int thatYear = year() + y;
            for (int i = 0; i < leases.size(); i++) {
                Lease l = leases.get(i);
                boolean renewed = (bits & 1 << i) != 0;
                if (y > 0 || !rentsTaken.contains(thatYear)) {
                    chest += renewed ? reserved(l, thatYear) : rent(i, thatYear);
                }
                if (renewed && l.end == thatYear) {
                    chest += fine(l, 0);
                }
            }
            chest -= upkeep;
            for (int r = 0; r < roofs.size(); r++) {
                if (mended[r] == y) {
                    chest -= roofs.get(r).cost;
                }
                if (mended[r] >= 0 && mended[r] <= y) {
                    worth += roofs.get(r).worth;
                }
            }
            if (chest < floor) {
                return -10 - y;
            }
        }
        return chest + worth;
    }

    public int plan(int years, int floor, int upkeep) {
        if (!in(years, 1, 10) || !in(floor, 0, 99999) || !in(upkeep, 0, 99999)) {
            return no(-6);
        }
        int allowed = 0;
        for (int i = 0; i < leases.size(); i++) {
            allowed |= endsWithin(i, years) ? 1 << i : 0;
        }
        long best = -1;
        int[] bestPlan = null;
        for (int bits = 0; bits < 256; bits++) {
            for (int m0 = 0; m0 <= years; m0++) {
                for (int m1 = 0; m1 <= years; m1++) {
                    if ((bits & ~allowed) != 0 || roofs.size() < 1 && m0 < years || roofs.size() < 2 && m1 < years) {
                        continue;
                    }
                    int[] mended = {m0 == years ? -1 : m0, m1 == years ? -1 : m1};
                    long worth = walk(bits, mended, years, floor, upkeep);
                    if (worth > best) {
                        best = worth;
                        bestPlan = new int[] {bits, mended[0], mended[1]};
                    }
                }
            }
        }
        if (bestPlan == null) {
            return no(-6);
        }
        latestPlan = bestPlan;
        return (int) best;
    }

    public int planned(int what) {
        return latestPlan != null && in(what, 0, 2) ? latestPlan[what] : NONE;
    }

    public int judge(int s, int years, int floor, int upkeep) {
        int wrong = rowsWanted(s);
        if (wrong != 0) {
            return no(wrong);
        }
        int[] row = ints(s);
        if (row.length < 1 + roofs.size()) {
            return no(-5);
        }
        if (!in(years, 1, 10) || !in(floor, 0, 99999) || !in(upkeep, 0, 99999)) {
            return no(-6);
        }
        for (int i : setOf(row[0])) {
            if (!isLease(i) || !endsWithin(i, years)) {
                return no(-6);
            }
        }
        int[] mended = new int[roofs.size()];
        for (int r = 0; r < mended.length; r++) {
            mended[r] = row[1 + r];
            if (!in(mended[r], -1, years - 1)) {
                return no(-6);
            }
        }
        return (int) walk(row[0], mended, years, floor, upkeep);
    }

    // ---- promises 54 to 59

    public int room() {
        return roomCount >= 9 ? no(-7) : roomCount++;
    }

    public int wish(int who, int s) {
        int wrong = isPerson(who) ? rowsWanted(s) : -1;
        if (wrong != 0) {
            return no(wrong);
        }
        people.get(who).wish = ints(s);
        return ints(s).length;
    }

    private int[] wishOf(int who) {
        return people.get(who).wish == null ? new int[0] : people.get(who).wish;
    }

    public int choose() {
        List<Integer> fellows = fellowsBySeniority();
        fellows.forEach(who -> people.get(who).room = NONE);
        Set<Integer> free = setOf((1 << roomCount) - 1);
        people.forEach(p -> free.remove(p.room));
        int took = 0;
        for (int who : fellows) {
            int room = firstIn(wishOf(who), free);
            if (room != NONE) {
                people.get(who).room = room;
                free.remove(room);
                took++;
            }
        }
        return took;
    }

    public int exchange() {
        Map<Integer, Integer> owner = new TreeMap<>();
        for (int who = 0; who < people.size(); who++) {
            if (people.get(who).room != NONE) {
                owner.put(people.get(who).room, who);
            }
        }
        int changed = 0;
        while (!owner.isEmpty()) {
            // the ring is found from the last room: which ring goes first is no matter
            List<Integer> way = new ArrayList<>();
            int room = ((TreeMap<Integer, Integer>) owner).lastKey();
            while (!way.contains(room)) {
                way.add(room);
                int wanted = firstIn(wishOf(owner.get(room)), owner.keySet());
                room = wanted == NONE ? room : wanted;
            }
            List<Integer> ring = way.subList(way.indexOf(room), way.size());
            for (int i = 0; i < ring.size(); i++) {
                int goal = ring.get((i + 1) % ring.size());
                people.get(owner.get(ring.get(i))).room = goal;
                changed += goal == ring.get(i) ? 0 : 1;
            }
            owner.keySet().removeAll(new ArrayList<>(ring));
        }
        return changed;
    }

    public int roomOf(int who) {
        return isPerson(who) ? people.get(who).room : NONE;
    }

    public int status(int what) {
        if (in(what, 11, 17)) {
            return refused[what - 10];
        }
        return switch (what) {
            case 0 -> people.size();
            case 1 -> facts.size();
            case 2 -> amendments.size();
            case 3 -> places.size();
            case 4 -> (int) places.stream().filter(p -> p.holder != NONE).count();
            case 5 -> leases.size();
            case 6 -> prices.size();
            case 7 -> entries.size();
            case 8 -> now;
            case 9 -> chest();
            case 10 -> roomCount;
            case 18 -> rounds.size();
            default -> NONE;
        };
    }

    @Override
    public String toString() {
        return "PlainHouse " + Arrays.toString(refused);
    }
}
