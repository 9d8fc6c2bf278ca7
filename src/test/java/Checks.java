/** Counts the answers that are not as due. */
final class Checks {
    /** The land that most tests walk in. */
    static final String BASE = "place a;place b calm 2;place c echo 3;way a to b 3;way b to c 2 sight 1;way a to c 6;"
        + "soul p stubborn 2 short 1;soul q stubborn 0 short 3;"
        + "matter m burns 5 of 1 2 3;matter n burns 9 of 4 4;back grief - 1;";

    private static int wrong = 0;
    private static int all = 0;
    private static String part = "";

    private Checks() { }

    static void part(String name) {
        part = name;
    }

    static void due(String call, long got, long want) {
        all++;
        if (got != want) {
            wrong++;
            System.out.println(part + ": " + call + " answered " + got + ", due is " + want);
        }
    }

    static void due(String call, boolean got, boolean want) {
        due(call, got ? 1 : 0, want ? 1 : 0);
    }

    /** Prints and, if an answer was wrong, ends the program with code 1. */
    static void close() {
        System.out.println(all + " answers, " + wrong + " not as due");
        if (wrong != 0) {
            System.exit(1);
        }
    }

    /** The text comes on the tape, and what stood there goes. */
    static void put(QuarrelMiles x, String text) {
        x.end(0);
        for (int i = 0; i < text.length(); i += 20) {
            int[] five = new int[5];
            for (int k = 0; k < 20; k++) {
                int sign = i + k < text.length() ? text.charAt(i + k) & 255 : ' ';
                five[k / 4] = five[k / 4] << 8 | sign;
            }
            x.feed(five[0], five[1], five[2], five[3], five[4]);
        }
        due("end(" + text.length() + ")", x.end(text.length()), text.length());
    }

    /** A new object with that land. */
    static QuarrelMiles land(String text) {
        QuarrelMiles x = new QuarrelMiles();
        put(x, text);
        x.land();
        due("fault(0) of [" + text + "]", x.fault(0), 0);
        due("fault(1) of [" + text + "]", x.fault(1), -1);
        return x;
    }

    /** What lies there, told by turns. */
    static void lying(String call, QuarrelMiles x, int... numbers) {
        due("about(13) behind " + call, x.about(13), numbers.length);
        for (int i = 0; i < numbers.length; i++) {
            due("lies(" + i + ") behind " + call, x.lies(i), numbers[i]);
        }
        due("lies(-1) behind " + call, x.lies(-1), -1);
        due("lies(" + numbers.length + ") behind " + call, x.lies(numbers.length), -1);
    }
}
