/** What the tests share: answers that are due, and rows written in one go. */
final class Checks {
    private static int wrong = 0;
    private static int asked = 0;

    private Checks() { }

    static void due(String call, long got, long want) {
        asked++;
        if (got != want) {
            wrong++;
            System.out.println(call + " answered " + got + ", due is " + want);
        }
    }

    static void fail(String what) {
        asked++;
        wrong++;
        System.out.println(what);
    }

    /** Puts numbers on a shelf, as a row of ints. */
    static void put(CollegeHouse house, int s, long... numbers) {
        putSort(house, s, 2, numbers);
    }

    static void putSort(CollegeHouse house, int s, int sort, long... numbers) {
        due("row", house.row(s, sort, numbers.length), 1);
        for (int i = 0; i < numbers.length; i++) {
            due("set", house.set(s, i, numbers[i]), 1);
        }
    }

    /** Puts a text on a shelf, as a row of bytes. */
    static void write(CollegeHouse house, int s, String text) {
        due("row", house.row(s, 0, text.length()), 1);
        for (int i = 0; i < text.length(); i++) {
            due("set", house.set(s, i, text.charAt(i)), 1);
        }
    }

    static String words(CollegeHouse house, int which, int a, int k) {
        StringBuilder text = new StringBuilder();
        int size = house.words(which, a, k, CollegeHouse.NONE);
        for (int i = 0; i < size; i++) {
            text.append((char) house.words(which, a, k, i));
        }
        return text.toString();
    }

    static void dueText(String call, String got, String want) {
        asked++;
        if (!got.equals(want)) {
            wrong++;
            System.out.println(call + " answered \"" + got + "\", due is \"" + want + "\"");
        }
    }

    /** Ends the test: with code 1 if an answer was wrong. */
    static void end() {
        System.out.println(asked + " answers, " + wrong + " wrong");
        if (wrong != 0 || asked == 0) {
            System.exit(1);
        }
    }
}
