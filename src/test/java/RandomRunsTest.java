import java.lang.reflect.InvocationTargetException;
import java.lang.reflect.Method;
import java.util.ArrayList;
import java.util.HashMap;
import java.util.List;
import java.util.Map;
import java.util.Random;

/** Runs of chance calls, with many wrong arguments among them, on CollegeHouse and on PlainHouse: all answers are alike. */
public final class RandomRunsTest {
    /** Each method of the face with the kinds of its arguments. */
    private static final String[] CALLS = {
        "days n", "person born", "founder who", "link who bit who", "fact who sort value from", "death who day",
        "is who sort a k", "kin who flag k", "settles who", "row s sort size", "set s i long", "copy s s i i size",
        "element s i", "show s who", "holds s", "bornIn s", "statute which s", "amend which s s from",
        "words which a k letter", "gone amendment a k", "fault which a k", "may who which a k",
        "test who which a k letter", "place which", "grace grace", "hold who place", "leave place",
        "about place what", "ballot who s", "elect place bits", "votes round who", "without who", "asked place",
        "answer place flag", "lease value coin coin week full year", "lives value coin coin week bits",
        "price year week coin", "ends lease", "rent lease year", "table s", "renew lease", "rents", "kept who kept",
        "dividend pot", "got who", "other amount", "head sort year", "audit a", "roof cost value",
        "plan years floor upkeep", "planned what", "judge s years floor upkeep", "room", "wish who s", "choose",
        "exchange", "roomOf who", "status status",
    };

    private static final Map<String, Method> REAL = methodsOf(CollegeHouse.class);
    private static final Map<String, Method> PLAIN = methodsOf(PlainHouse.class);

    private final Random random;
    private final CollegeHouse real = new CollegeHouse();
    private final PlainHouse plain = new PlainHouse();
    private final StringBuilder told = new StringBuilder();
    private final int[] weight = new int[CALLS.length];
    private final int wildness;
    private final boolean calm;
    private boolean isWrong = false;
    private int made = 0;

    private RandomRunsTest(long seed) {
        random = new Random(seed);
        int[] howWild = {4, 12, 40, 200};
        wildness = howWild[random.nextInt(howWild.length)];
        for (int c = 0; c < CALLS.length; c++) {
            weight[c] = 1 + random.nextInt(1 + random.nextInt(30));
        }
        weight[0] = 1 + random.nextInt(6);
        calm = random.nextInt(3) > 0;
        if (calm) {
            // in a calm run most people stay wed and alive, so that places stay held
            weight[4] = random.nextInt(3);
            weight[5] = random.nextInt(2);
        }
    }

    private static Map<String, Method> methodsOf(Class<?> of) {
        Map<String, Method> methods = new HashMap<>();
        for (Method m : of.getDeclaredMethods()) {
            if (java.lang.reflect.Modifier.isPublic(m.getModifiers())) {
                methods.put(m.getName(), m);
            }
        }
        return methods;
    }

    private int pick(int... of) {
        return of[random.nextInt(of.length)];
    }

    private int between(int least, int most) {
        return least + random.nextInt(most - least + 1);
    }

    /** A number of a range, or, now and then, one of its edges or far from it. */
    private int near(int least, int most) {
        int chance = random.nextInt(wildness);
        if (chance == 0) {
            return pick(least - 1, most + 1, NONE, 0, Integer.MIN_VALUE, Integer.MAX_VALUE, random.nextInt());
        }
        return chance == 1 ? pick(least, most) : between(least, Math.max(least, most));
    }

    private static final int NONE = -1;
    private static final int CALLS_OF_AN_OBJECT = 512;

    private Object argument(String kind) {
        int someone = Math.max(0, plain.people.size() - 1);
        switch (kind) {
            case "n": return random.nextInt(4) > 0 ? near(1, 30) : near(1, random.nextInt(8) == 0 ? 4000 : 400);
            case "born":
                return random.nextInt(4) == 0 ? near(-40000, 40000)
                    : random.nextInt(3) == 0 ? -1000 * between(3, 8) : between(-12000, plain.now + (calm ? 0 : 50));
            case "who": return near(0, someone);
            case "bit": return near(0, 1);
            case "sort": return near(0, 3);
            case "value": return random.nextBoolean() ? near(0, 9999) : near(0, 3);
            case "from": return random.nextInt(3) == 0 ? near(-40000, 40000) : near(plain.now - 40, plain.now + 40);
            case "day": return near(plain.now - random.nextInt(2000), plain.now);
            case "a": return random.nextInt(3) == 0 ? near(-12000, 40000) : near(plain.now - 20, plain.now + 20);
            case "k": return random.nextInt(3) == 0 ? plain.now : near(0, Math.max(plain.now, 1));
            case "s": return near(0, 9);
            case "i": return random.nextBoolean() ? near(0, 4) : near(0, 80);
            case "size": return random.nextBoolean() ? near(0, 6) : near(0, 80);
            case "long": return random.nextInt(3) == 0 ? random.nextLong() : (long) near(0, 30);
            case "which": return near(0, 3);
            case "letter": return near(-1, 12);
            case "amendment": return near(0, 11);
            case "grace": return random.nextBoolean() ? near(0, 4000) : near(0, 60);
            case "place": return near(0, Math.max(0, plain.places.size() - 1));
            case "what": return near(0, 3);
            case "bits": return someBits(someone);
            case "round": return near(0, 5);
            case "flag": return random.nextBoolean();
            case "coin": return near(0, 999);
            case "week": return near(0, 51);
            case "full": return near(1, 40);
            case "year": return random.nextInt(3) == 0 ? near(0, 200) : near(plain.now / 365, plain.now / 365 + 5);
            case "lease": return near(0, 7);
            case "kept": return near(0, 365);
            case "pot": return near(0, Math.max(0, plain.status(9)));
            case "amount": return near(-99999, 99999);
            case "cost": return random.nextBoolean() ? near(1, 99999) : near(1, 9999);
            case "years": return random.nextInt(3) > 0 ? near(1, 4) : near(1, 10);
            case "floor": return random.nextBoolean() ? near(0, 99999) : near(0, Math.max(0, plain.status(9)));
            case "upkeep": return random.nextBoolean() ? near(0, 99999) : near(0, 2000);
            case "status": return near(0, 18);
            default: throw new IllegalStateException(kind);
        }
    }

    private int someBits(int someone) {
        if (random.nextInt(wildness) == 0) {
            return pick(0, -1, Integer.MIN_VALUE, random.nextInt(), 1 << someone + 1);
        }
        int bits = 0;
        int most = between(1, 7);
        for (int i = 0; i < most; i++) {
            bits |= 1 << between(0, someone);
        }
        return bits;
    }

    /** What one object answers behind its 512th call is free: from there on the plain house is asked alone. */
    private long call(String name, Object... arguments) {
        try {
            long due = ((Number) PLAIN.get(name).invoke(plain, arguments)).longValue();
            if (++made > CALLS_OF_AN_OBJECT || isWrong) {
                return due;
            }
            long got = ((Number) REAL.get(name).invoke(real, arguments)).longValue();
            told.append(name).append(java.util.Arrays.toString(arguments)).append(" = ").append(got).append('\n');
            if (got != due) {
                told.append("due is ").append(due).append('\n');
                isWrong = true;
            }
            return due;
        } catch (IllegalAccessException | InvocationTargetException e) {
            throw new IllegalStateException(name + java.util.Arrays.toString(arguments) + " after\n" + told, e);
        }
    }

    private void chanceCall() {
        int all = 0;
        for (int w : weight) {
            all += w;
        }
        int at = random.nextInt(all);
        int c = 0;
        while (at >= weight[c]) {
            at -= weight[c];
            c++;
        }
        String[] parts = CALLS[c].split(" ");
        Object[] arguments = new Object[parts.length - 1];
        for (int i = 0; i < arguments.length; i++) {
            arguments[i] = argument(parts[i + 1]);
        }
        call(parts[0], arguments);
    }

    private void putRow(int s, List<Integer> numbers) {
        call("row", s, between(0, 3), numbers.size());
        for (int i = 0; i < numbers.size(); i++) {
            call("set", s, i, (long) numbers.get(i));
        }
    }

    private List<Integer> someNumbers(int most, int limit) {
        List<Integer> numbers = new ArrayList<>();
        int size = between(0, most);
        for (int i = 0; i < size; i++) {
            numbers.add(near(0, limit));
        }
        return numbers;
    }

    private List<Integer> letters(String text) {
        List<Integer> list = new ArrayList<>();
        text.chars().forEach(list::add);
        return list;
    }

    private String someTest() {
        if (random.nextInt(4) == 0) {
            return "w";
        }
        char letter = "akdrt".charAt(random.nextInt(5));
        int number = letter == 'a' ? between(0, 40) : letter == 'k' ? pick(0, 1, 1, 2, 2, 3, 4, 99) : between(0, 3);
        return letter + "<>=".substring(random.nextInt(3)).substring(0, 1) + number;
    }

    private String someLaw(int depth) {
        StringBuilder law = new StringBuilder();
        int parts = between(1, 3);
        for (int i = 0; i < parts; i++) {
            law.append(i == 0 ? "" : random.nextBoolean() ? "&" : "|");
            while (random.nextInt(4) == 0) {
                law.append('!');
            }
            law.append(depth > 0 && random.nextInt(3) == 0 ? "(" + someLaw(depth - 1) + ")" : someTest());
        }
        return law.toString();
    }

    private String spoil(String law) {
        StringBuilder text = new StringBuilder(law);
        int at = random.nextInt(text.length());
        switch (random.nextInt(4)) {
            case 0: text.insert(at, "wakdrt<>=!()&|0123456789".charAt(random.nextInt(24))); break;
            case 1: text.deleteCharAt(at); break;
            case 2: text.setCharAt(at, "wakdrt<>=!()&|0123456789x".charAt(random.nextInt(25))); break;
            default: text.insert(at, random.nextBoolean() ? "(".repeat(between(1, 33)) : "!".repeat(between(1, 33)));
        }
        return text.toString();
    }

    private String shortened(String text) {
        return text.length() > 80 ? text.substring(0, 80) : text;
    }

    private void tellStatute() {
        String law = someLaw(3);
        law = shortened(random.nextInt(4) == 0 ? spoil(law) : law);
        int s = between(0, 9);
        putRow(s, letters(law));
        int which = near(0, 3);
        call("statute", which, s);
        readStatute(which);
    }

    private void readStatute(int which) {
        int a = (Integer) argument("a");
        int k = (Integer) argument("k");
        call("fault", which, a, k);
        long size = call("words", which, a, k, NONE);
        for (int i = 0; i < size; i += between(1, 9)) {
            call("words", which, a, k, i);
        }
        for (int who = 0; who < plain.people.size(); who++) {
            call("may", who, which, plain.now, plain.now);
            call("may", who, which, a, k);
            call("test", who, which, a, k, between(0, 5));
        }
    }

    private void tellAmendment() {
        int which = between(0, 3);
        int size = plain.words(which, plain.now, plain.now, NONE);
        List<Integer> older = new ArrayList<>();
        int from = random.nextInt(size);
        int until = Math.min(size, from + between(1, random.nextInt(3) == 0 ? 60 : 5));
        for (int i = from; i < until && older.size() < 80; i++) {
            older.add(plain.words(which, plain.now, plain.now, i));
        }
        List<Integer> newer = letters(shortened(random.nextInt(3) == 0 ? someLaw(4) : someTest()));
        int s = between(0, 4);
        int t = between(5, 9);
        putRow(s, older);
        putRow(t, newer);
        call("amend", which, s, t, random.nextInt(3) == 0 ? near(0, 40000) : between(plain.now, plain.now + 30));
        readStatute(which);
    }

    private void tellBallots() {
        for (int who = 0; who < plain.people.size(); who++) {
            if (random.nextInt(3) > 0) {
                int s = between(0, 9);
                putRow(s, someNumbers(6, Math.max(1, plain.people.size())));
                call("ballot", who, s);
            }
        }
        holdElection();
    }

    /** Mostly those who can take a place: chance bits alone would seldom be elected from. */
    private int fitBits(int place) {
        if (place < 0 || place >= plain.places.size() || random.nextInt(6) == 0) {
            return someBits(Math.max(0, plain.people.size() - 1));
        }
        int bits = 0;
        int share = between(1, 4);
        for (int who = 0; who < plain.people.size(); who++) {
            if (canTake(who, place) && random.nextInt(share) == 0) {
                bits |= 1 << who;
            }
        }
        return bits;
    }

    private boolean canTake(int who, int place) {
        int kind = plain.about(place, 0);
        boolean holds = false;
        for (int other = 0; other < plain.places.size(); other++) {
            holds |= plain.about(other, 0) == kind && plain.about(other, 1) == who;
        }
        return !holds && plain.may(who, kind, plain.now, plain.now) == 1;
    }

    private void holdElection() {
        int place = near(0, Math.max(0, plain.places.size() - 1));
        if (random.nextInt(3) > 0) {
            call("leave", place);
        }
        call("elect", place, fitBits(place));
        for (int who = -1; who <= plain.people.size(); who++) {
            call("without", who);
            for (int i = 0; i < plain.status(18) + 1; i++) {
                call("votes", i, who);
            }
        }
    }

    private void tellWishes() {
        for (int who = 0; who < plain.people.size(); who++) {
            if (random.nextInt(3) > 0) {
                int s = between(0, 9);
                putRow(s, someNumbers(7, 9));
                call("wish", who, s);
            }
        }
        call(random.nextBoolean() ? "choose" : "exchange");
        askRooms();
    }

    private void askRooms() {
        for (int who = 0; who < plain.people.size(); who++) {
            call("roomOf", who);
        }
    }

    private void changeRooms() {
        call("room");
        tellWishes();
        call("choose");
        askRooms();
        tellWishes();
        call("exchange");
        askRooms();
    }

    private void partSome() {
        call("other", argument("amount"));
        for (int who = 0; who < plain.people.size(); who++) {
            if (random.nextBoolean()) {
                call("kept", who, argument("kept"));
            }
        }
        call("dividend", argument("pot"));
        for (int who = 0; who < plain.people.size(); who++) {
            call("got", who);
        }
        call("days", 365);
    }

    private void judgeSome() {
        List<Integer> plan = new ArrayList<>();
        plan.add(random.nextBoolean() ? plain.planned(0) : random.nextInt(256));
        plan.add(near(-1, 4));
        plan.add(near(-1, 4));
        int s = between(0, 9);
        putRow(s, plan);
        call("judge", s, argument("years"), argument("floor"), argument("upkeep"));
    }

    private void planSome() {
        call("plan", argument("years"), argument("floor"), argument("upkeep"));
        for (int what = -1; what <= 3; what++) {
            call("planned", what);
        }
    }

    private void fillPlaces() {
        for (int place = 0; place < plain.places.size(); place++) {
            int who = (Integer) argument("who");
            for (int i = 0; i < plain.people.size() && who >= 0 && !canTake(who, place); i++) {
                who = (who + 1) % Math.max(1, plain.people.size());
            }
            call("hold", who, place);
        }
    }

    private void askForLiving() {
        for (int place = 0; place < plain.places.size(); place++) {
            if (plain.about(place, 0) == 3) {
                call("leave", place);
                for (int i = between(0, 4); i > 0; i--) {
                    call("answer", place, random.nextInt(3) == 0);
                    call("asked", place);
                }
            }
        }
        call("days", argument("n"));
    }

    private void begin() {
        int howMany = between(0, 24);
        for (int who = 0; who < howMany; who++) {
            call("person", argument("born"));
            if (calm || random.nextInt(3) > 0) {
                call("fact", who, 1, calm && random.nextInt(8) > 0 ? 1 : between(0, 1), between(-100, 0));
            }
            if (random.nextInt(3) == 0) {
                call("fact", who, between(0, 3), between(0, 4), between(-100, 0));
            }
        }
        int links = between(0, howMany);
        for (int i = 0; i < links; i++) {
            call("link", argument("who"), between(0, 1), argument("who"));
        }
        for (int i = random.nextInt(12); i > 0; i--) {
            call("place", random.nextInt(3) == 0 ? near(0, 3) : pick(1, 1, 2, 3));
        }
        fillPlaces();
    }

    private void someStep() {
        switch (random.nextInt(120)) {
            case 0:
            case 1:
                if (calm && random.nextInt(4) > 0) {
                    readStatute(between(0, 3));
                } else if (random.nextBoolean()) {
                    tellStatute();
                } else {
                    tellAmendment();
                }
                break;
            case 2: tellBallots(); break;
            case 3: tellWishes(); break;
            case 4: judgeSome(); break;
            case 5: planSome(); break;
            case 6: fillPlaces(); break;
            case 7: holdElection(); break;
            case 8:
                int s = between(0, 9);
                putRow(s, someNumbers(12, random.nextBoolean() ? 10000 : 300));
                call("table", s);
                break;
            case 9: changeRooms(); break;
            case 10: partSome(); break;
            case 11: askForLiving(); break;
            case 12: askSome(); break;
            default: chanceCall(); break;
        }
    }

    private void askSome() {
        switch (random.nextInt(4)) {
            case 0:
                for (int what = -1; what <= 19; what++) {
                    call("status", what);
                }
                break;
            case 1:
                for (int who = -1; who <= plain.people.size(); who++) {
                    call("kin", who, random.nextBoolean(), plain.now);
                    call("settles", who);
                }
                break;
            case 2:
                for (int place = -1; place <= plain.places.size(); place++) {
                    for (int what = 0; what < 4; what++) {
                        call("about", place, what);
                    }
                    call("asked", place);
                }
                break;
            default:
                for (int lease = -1; lease <= plain.leases.size(); lease++) {
                    call("ends", lease);
                    call("rent", lease, plain.now / 365);
                }
                for (int head = -1; head <= 4; head++) {
                    call("head", head, plain.now / 365);
                }
                break;
        }
    }

    private void beginLands() {
        List<Integer> rates = new ArrayList<>();
        int rate = between(0, 400);
        for (int n = between(0, 30); n > 0; n--) {
            rates.add(rate);
            rate = Math.min(10000, rate + between(0, 400));
        }
        putRow(0, rates);
        call("table", 0);
        for (int n = between(0, 8); n > 0; n--) {
            call("lease", between(1, 3000), between(0, 99), between(0, 99), between(0, 51), between(1, 30), between(0, 12));
        }
        for (int n = between(0, 60); n > 0; n--) {
            call("price", between(0, 12), between(0, 51), between(0, 99));
        }
        for (int n = between(0, 2); n > 0; n--) {
            call("roof", between(1, 9999), between(0, 4000));
        }
    }

    private boolean run() {
        begin();
        if (random.nextInt(3) > 0) {
            beginLands();
        }
        while (made < CALLS_OF_AN_OBJECT - 40 && !isWrong) {
            someStep();
        }
        askSome();
        return !isWrong;
    }

    public static void main(String[] args) {
        int from = args.length > 0 ? Integer.parseInt(args[0]) : 1;
        int until = args.length > 1 ? Integer.parseInt(args[1]) : 5000;
        int wrong = 0;
        for (int seed = from; seed <= until && wrong < 3; seed++) {
            RandomRunsTest run = new RandomRunsTest(seed);
            if (!run.run()) {
                wrong++;
                String text = run.told.toString();
                System.out.println("seed " + seed + ":\n" + text.substring(Math.max(0, text.length() - 1500)));
            }
        }
        System.out.println(wrong == 0 ? "all runs are alike" : wrong + " runs are not alike");
        if (wrong != 0) {
            System.exit(1);
        }
    }
}
