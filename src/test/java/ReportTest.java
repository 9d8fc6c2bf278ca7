/** Promises 31 to 35, and 1: reports of an unknown road, known in two times. */
public final class ReportTest {
    private static final long ALL = (1L << 60) - 1;

    /** Lengths by matters: 5, 20, 60, 61, never. */
    private static final String LENGTHS = "soul p stubborn 0 short 0;soul q stubborn 0 short 0;"
        + "matter a burns 5 of 1;matter b burns 20 of 1;matter c burns 60 of 1;matter d burns 61 of 1;matter e burns 99 of 1;"
        + "heat heat - (heat < 90);back 1;";

    public static void main(String[] args) {
        anew();
        reports();
        answers();
        times();
        later();
        ask();
        asTold();
        Checks.close();
    }

    private static long from(int low, int high) {
        long bits = 0;
        for (int miles = low; miles <= high; miles++) {
            bits |= 1L << (miles - 1);
        }
        return bits;
    }

    private static void anew() {
        Checks.part("promise 1");
        QuarrelMiles x = new QuarrelMiles();
        int[] about = {0, 0, 0, 0, 0, 0, 0, -1, -1, 0, 0, 0, 0, 0};
        for (int i = 0; i < about.length; i++) {
            Checks.due("about(" + i + ")", x.about(i), about[i]);
        }
        Checks.due("miles", x.miles(0), ALL);
        Checks.due("ask", x.ask(0, 0), -1);
        Checks.due("ask", x.ask(1, 0), -1);
        Checks.due("report", x.report(0, 1, 0, 0), -1);
        Checks.due("untell", x.untell(0), false);
        Checks.due("cover", x.cover(), 0);
        Checks.due("fair", x.fair(), 0);
        Checks.due("year", x.year(), -1);
        Checks.due("image", x.image(0), 0);
        Checks.due("back", x.back(0), 0);
        Checks.due("later", x.later(3), 3);
        Checks.due("NONE", QuarrelMiles.NONE, -1);
        Checks.due("another object is its own", new QuarrelMiles().about(10), 0);
    }

    private static void reports() {
        Checks.part("promise 31");
        QuarrelMiles x = Checks.land(LENGTHS);
        int[][] bad = {{0, 0, 0, 0}, {2, 0, 0, 0}, {0, -1, 0, 0}, {0, 1, 5, 0}, {0, 1, -1, 0}, {0, 1, 0, 3}, {0, 1, 0, -1}};
        for (int[] b : bad) {
            Checks.due("report", x.report(b[0], b[1], b[2], b[3]), -1);
        }
        Checks.due("reports", x.about(9), 0);
        for (int i = 0; i < 30; i++) {
            Checks.due("report", x.report(0, 1, 4, 2), i);
            Checks.due("reports", x.about(9), i + 1);
        }
        Checks.due("report 31", x.report(0, 1, 4, 2), -1);
        Checks.due("untell", x.untell(3), true);
        Checks.due("report 31 behind untell", x.report(0, 1, 4, 2), -1);
        Checks.due("reports", x.about(9), 30);
        Checks.due("miles", x.miles(0), ALL);
    }

    private static void answers() {
        Checks.part("promise 34");
        int[] lengths = {5, 20, 60, 61, 200};
        for (int matter = 0; matter < lengths.length; matter++) {
            int length = lengths[matter];
            for (int what = 0; what <= 2; what++) {
                QuarrelMiles x = Checks.land(LENGTHS);
                x.report(0, 1, matter, what);
                long due = what == 0 ? from(length + 1, 60) : what == 1 ? from(length, Math.min(60, length)) : from(1, Math.min(60, length - 1));
                Checks.due("miles by " + length + ", " + what, x.miles(0), due);
                Checks.due("miles ahead of it", x.miles(-1), ALL);
                Checks.due("miles far on", x.miles(Integer.MAX_VALUE), due);
                Checks.due("miles far ahead", x.miles(Integer.MIN_VALUE), ALL);
            }
        }
        QuarrelMiles x = Checks.land(LENGTHS);
        x.report(0, 1, 0, 0);
        x.report(1, 0, 1, 2);
        Checks.due("miles by both", x.miles(0), from(6, 19));
        x.report(1, 0, 1, 1);
        Checks.due("no miles", x.miles(0), 0);
        Checks.due("quarrel of one mile", Checks.land("soul p stubborn 0 short 0;soul q stubborn 0 short 0;matter m burns 1 of 1;")
            .quarrel(0, 1, 0), 1);
        x = Checks.land("soul p stubborn 0 short 0;soul q stubborn 0 short 0;matter m burns 1 of 1;");
        x.report(0, 1, 0, 2);
        Checks.due("shorter than one mile", x.miles(0), 0);
    }

    private static void times() {
        Checks.part("promises 32, 33, two times");
        QuarrelMiles x = Checks.land(LENGTHS);
        Checks.due("untell(0)", x.untell(0), false);
        Checks.due("untell(-1)", x.untell(-1), false);
        x.later(10);
        Checks.due("report", x.report(0, 1, 0, 0), 0);
        x.later(10);
        Checks.due("report", x.report(0, 1, 1, 2), 1);
        x.later(10);
        Checks.due("untell(0)", x.untell(0), true);
        Checks.due("untell(0) again", x.untell(0), false);
        Checks.due("untell(2)", x.untell(2), false);
        Checks.due("miles at 9", x.miles(9), ALL);
        Checks.due("miles at 10", x.miles(10), from(6, 60));
        Checks.due("miles at 19", x.miles(19), from(6, 60));
        Checks.due("miles at 20", x.miles(20), from(6, 19));
        Checks.due("miles at 29", x.miles(29), from(6, 19));
        Checks.due("miles at 30", x.miles(30), from(1, 19));
        Checks.due("miles far on", x.miles(Integer.MAX_VALUE), from(1, 19));
        // Told and untold at one time: never known.
        Checks.due("report", x.report(0, 1, 2, 1), 2);
        Checks.due("miles at 30", x.miles(30), 0);
        Checks.due("untell(2)", x.untell(2), true);
        Checks.due("miles at 30", x.miles(30), from(1, 19));
        x.later(1);
        Checks.due("miles at 31", x.miles(31), from(1, 19));
        // A land takes the reports, not the time.
        Checks.put(x, LENGTHS);
        x.land();
        Checks.due("time", x.about(10), 31);
        Checks.due("reports", x.about(9), 0);
        Checks.due("miles", x.miles(31), ALL);
        Checks.due("untell", x.untell(1), false);
        Checks.due("report", x.report(0, 1, 0, 1), 0);
        Checks.due("miles at 30", x.miles(30), ALL);
        Checks.due("miles at 31", x.miles(31), from(5, 5));
        Checks.due("untell", x.untell(0), true);
        Checks.due("miles at 31", x.miles(31), ALL);
    }

    private static void later() {
        Checks.part("promise 33");
        QuarrelMiles x = new QuarrelMiles();
        Checks.due("later(0)", x.later(0), 0);
        Checks.due("later(-1)", x.later(-1), -1);
        Checks.due("later(1001)", x.later(1001), -1);
        Checks.due("later far", x.later(Integer.MAX_VALUE), -1);
        for (int i = 1; i <= 99; i++) {
            Checks.due("later(1000)", x.later(1000), 1000 * i);
        }
        Checks.due("later(999)", x.later(999), 99999);
        Checks.due("later(2)", x.later(2), -1);
        Checks.due("time", x.about(10), 99999);
        Checks.due("later(1)", x.later(1), 100000);
        Checks.due("later(1)", x.later(1), -1);
        Checks.due("later(0)", x.later(0), 100000);
    }

    private static void ask() {
        Checks.part("promise 35");
        QuarrelMiles x = Checks.land(LENGTHS);
        // 5: 4, 1, 55. 20: 19, 1, 40. 60: 59, 1, 0. 61, never: 60. The first couple is (0, 1).
        Checks.due("ask", x.ask(0, 0), 11);
        Checks.due("left", x.ask(1, 0), 40);
        Checks.due("ask 2", x.ask(2, 0), -1);
        Checks.due("ask -1", x.ask(-1, 0), -1);
        x.report(0, 1, 1, 2);
        // 1 to 19 are left: 5: 4, 1, 14.
        Checks.due("ask", x.ask(0, 0), 10);
        Checks.due("left", x.ask(1, 0), 14);
        Checks.due("ask ahead of it", x.ask(0, -1), 11);
        x.report(0, 1, 0, 2);
        // 1 to 4: nothing tells more.
        Checks.due("ask", x.ask(0, 0), 10);
        Checks.due("left", x.ask(1, 0), 4);
        x.report(0, 1, 0, 1);
        Checks.due("ask of none", x.ask(0, 0), -1);
        Checks.due("left of none", x.ask(1, 0), -1);
        Checks.due("ask ahead of it", x.ask(1, -1), 40);
        x = Checks.land("soul p stubborn 0 short 0;matter m burns 5 of 1;");
        Checks.due("ask without couples", x.ask(0, 0), -1);
        Checks.due("left without couples", x.ask(1, 0), -1);
        x = Checks.land("soul p stubborn 0 short 0;soul q stubborn 0 short 0;");
        Checks.due("ask without matters", x.ask(1, 0), -1);
        // The couple in its order: (1, 2) by 0 is the first that is 30 long.
        x = Checks.land("soul p stubborn 9 short 0;soul q stubborn 1 short 0;soul r stubborn 1 short 0;matter m burns 30 of 1;"
            + "heat heat - stubborn;back 1;");
        Checks.due("ask", x.ask(0, 0), 120);
        Checks.due("left", x.ask(1, 0), 30);
    }

    private static void asTold() {
        Checks.part("tempers as told");
        QuarrelMiles x = Checks.land("soul p stubborn 1 short 0;soul q stubborn 1 short 0;matter m burns 20 of 1;"
            + "heat heat - stubborn;back 1;draw 1;");
        x.year();
        Checks.due("stubborn", x.soul(0, 0), 2);
        Checks.due("quarrel now", x.quarrel(0, 1, 0), 13);
        x.report(0, 1, 0, 1);
        Checks.due("miles", x.miles(0), from(20, 20));
        Checks.due("left", x.ask(1, -1), 40);
        x.undo();
        Checks.due("miles", x.miles(0), from(20, 20));
    }
}
