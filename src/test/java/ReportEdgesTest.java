/** The edges of promises 31 to 38: REPORTS of an unknown road, images, and what an object tells of itself. */
public final class ReportEdgesTest {
    /** How long the MATTERS of LENGTHS are; 200 stands for one that never ENDS. */
    private static final int[] LENGTH = {1, 2, 59, 60, 61, 200};
    private static final String LENGTHS = Edges.TWO + "matter a burns 1 of 1;matter b burns 2 of 1;matter c burns 59 of 1;"
        + "matter d burns 60 of 1;matter e burns 61 of 1;matter f burns 99 of 1;heat heat - (heat < 90);back 1;";

    public static void main(String[] args) throws IllegalAccessException {
        Edges.run(ReportEdgesTest.class);
    }

    private static void lengths(QuarrelMiles x) {
        Edges.land(x, LENGTHS);
    }

    private static long roads(int low, int high) {
        long bits = 0L;
        for (int miles = Math.max(1, low); miles <= Math.min(60, high); miles++) {
            bits |= 1L << miles - 1;
        }
        return bits;
    }

    // ==== Promise 31: report

    static void promise31ReportThatCannotBe() {
        int[][] bad = {{-1, 1, 0, 0}, {2, 1, 0, 0}, {0, -1, 0, 0}, {0, 2, 0, 0}, {0, 0, 0, 0}, {1, 1, 0, 0}, {0, 1, -1, 0}, {0, 1, 2, 0},
            {0, 1, 0, -1}, {0, 1, 0, 3}, {Edges.MAX, 1, 0, 0}, {0, Edges.MIN, 0, 0}, {0, 1, Edges.MAX, 0}, {0, 1, 0, Edges.MAX},
            {0, 1, 0, Edges.MIN}};
        for (int[] b : bad) {
            String call = "report(" + b[0] + ", " + b[1] + ", " + b[2] + ", " + b[3] + ")";
            Edges.refuses(call, Edges::busy, x -> x.report(b[0], b[1], b[2], b[3]), -1);
        }
        Checks.due("report of nothing", new QuarrelMiles().report(0, 1, 0, 0), -1);
    }

    static void promise31Report30AtMost() {
        QuarrelMiles x = Edges.after(ReportEdgesTest::lengths);
        for (int i = 0; i < 30; i++) {
            Checks.due("report", x.report(0, 1, 5, 2), i);
            Checks.due("reports", x.about(9), i + 1);
        }
        Checks.due("the 31st", x.report(0, 1, 5, 2), -1);
        Checks.due("reports", x.about(9), 30);
    }

    static void promise31ReportRefusedLeavesAll() {
        Edges.refuses("the 31st", x -> {
            lengths(x);
            for (int i = 0; i < 30; i++) {
                x.report(0, 1, 5, 2);
            }
        }, x -> x.report(0, 1, 1, 1), -1);
    }

    static void promise31ReportsUntoldAreAmong30() {
        QuarrelMiles x = Edges.after(ReportEdgesTest::lengths);
        for (int i = 0; i < 30; i++) {
            x.report(0, 1, 5, 2);
            x.untell(i);
        }
        Checks.due("the 31st", x.report(0, 1, 5, 2), -1);
        Checks.due("reports", x.about(9), 30);
    }

    static void promise31ReportsOfWhat0To2() {
        for (int matter = 0; matter < LENGTH.length; matter++) {
            for (int what = 0; what <= 2; what++) {
                QuarrelMiles x = Edges.after(ReportEdgesTest::lengths);
                Checks.due("report", x.report(1, 0, matter, what), 0);
                int length = LENGTH[matter];
                long due = what == 0 ? roads(length + 1, 60) : what == 1 ? roads(length, length) : roads(1, length - 1);
                Checks.due("miles by what " + what + " of " + length, x.miles(0), due);
            }
        }
    }

    static void promise31ReportsAreByTempersAsTold() {
        QuarrelMiles x = Checks.land("soul p stubborn 1 short 1;soul q stubborn 1 short 1;matter m burns 20 of 1;"
            + "heat heat - stubborn;back 1;draw 1;");
        x.year();
        Checks.due("quarrel now", x.quarrel(0, 1, 0), 13);
        x.report(0, 1, 0, 1);
        Checks.due("miles", x.miles(0), roads(20, 20));
    }

    // ==== Promise 32: untell

    static void promise32UntellNoneSuch() {
        Checks.due("untell(0) of nothing", new QuarrelMiles().untell(0), false);
        for (int report : new int[] {-1, 2, 30, Edges.MIN, Edges.MAX}) {
            Edges.refuses("untell(" + report + ")", Edges::busy, x -> x.untell(report) ? 1 : 0, 0);
        }
    }

    static void promise32UntellTheFirstAndTheLast() {
        QuarrelMiles x = Edges.after(ReportEdgesTest::lengths);
        for (int i = 0; i < 30; i++) {
            x.report(0, 1, 5, 2);
        }
        Checks.due("untell(30)", x.untell(30), false);
        for (int report : new int[] {0, 29}) {
            Checks.due("untell(" + report + ")", x.untell(report), true);
            Checks.due("untell(" + report + ") again", x.untell(report), false);
        }
    }

    static void promise32UntellIfItIsSoAlready() {
        // A busy one's first report was untold at 7; it stays so.
        Edges.refuses("untell(0)", Edges::busy, x -> x.untell(0) ? 1 : 0, 0);
        QuarrelMiles x = Edges.after(ReportEdgesTest::lengths);
        x.report(0, 1, 1, 1);
        x.later(1);
        Checks.due("untell", x.untell(0), true);
        x.later(1);
        Checks.due("untell again", x.untell(0), false);
        Checks.due("miles at 0", x.miles(0), roads(2, 2));
        Checks.due("miles at 1", x.miles(1), Edges.ALL_ROADS);
    }

    static void promise32UntellAtALaterTimeOrTheSame() {
        for (int later = 0; later <= 3; later++) {
            QuarrelMiles x = Edges.after(ReportEdgesTest::lengths);
            x.later(5);
            x.report(0, 1, 1, 1);
            x.later(later);
            Checks.due("untell", x.untell(0), true);
            for (int k = 3; k <= 10; k++) {
                boolean counts = k >= 5 && k < 5 + later;
                Checks.due("miles at " + k + ", untold at " + (5 + later), x.miles(k), counts ? roads(2, 2) : Edges.ALL_ROADS);
            }
        }
    }

    // ==== Promise 33: later

    static void promise33LaterBy0To1000() {
        QuarrelMiles x = new QuarrelMiles();
        Checks.due("later(0)", x.later(0), 0);
        Checks.due("later(1)", x.later(1), 1);
        Checks.due("later(1000)", x.later(1000), 1001);
        Checks.due("later(999)", x.later(999), 2000);
    }

    static void promise33LaterByAnotherNumber() {
        for (int by : new int[] {-1, 1001, -1000, Edges.MIN, Edges.MAX, Edges.MAX - 5}) {
            Edges.refuses("later(" + by + ")", Edges::busy, x -> x.later(by), -1);
        }
    }

    private static void atTime(QuarrelMiles x, int time) {
        for (int i = 0; i < time / 1000; i++) {
            x.later(1000);
        }
        x.later(time % 1000);
    }

    static void promise33LaterUpTo100000() {
        for (int time : new int[] {99000, 99001, 99999, 100000}) {
            QuarrelMiles x = Edges.after(y -> atTime(y, time));
            Checks.due("time", x.about(10), time);
            Checks.due("later to 100,000", x.later(100000 - time), 100000);
            Checks.due("later(0)", x.later(0), 100000);
        }
    }

    static void promise33LaterIsRefusedAbove100000() {
        for (int time : new int[] {99001, 99999, 100000}) {
            Edges.refuses("later above 100,000 from " + time, x -> {
                lengths(x);
                atTime(x, time);
            }, x -> x.later(100001 - time), -1);
        }
    }

    static void promise33ReportsAtTheLatestTime() {
        QuarrelMiles x = Edges.after(ReportEdgesTest::lengths);
        atTime(x, 100000);
        Checks.due("report", x.report(0, 1, 1, 1), 0);
        Checks.due("miles at 99,999", x.miles(99999), Edges.ALL_ROADS);
        Checks.due("miles at 100,000", x.miles(100000), roads(2, 2));
        Checks.due("untell", x.untell(0), true);
        Checks.due("miles at 100,000", x.miles(100000), Edges.ALL_ROADS);
    }

    // ==== Promise 34: miles

    static void promise34MilesOfAnyTime() {
        QuarrelMiles x = Edges.after(ReportEdgesTest::lengths);
        x.report(0, 1, 0, 1);
        for (int k : new int[] {-1, Edges.MIN}) {
            Checks.due("miles(" + k + ")", x.miles(k), Edges.ALL_ROADS);
        }
        for (int k : new int[] {0, 1, 100001, Edges.MAX}) {
            Checks.due("miles(" + k + ")", x.miles(k), 1L);
        }
        Checks.due("miles of nothing", new QuarrelMiles().miles(0), Edges.ALL_ROADS);
    }

    static void promise34MilesAreBits() {
        QuarrelMiles x = Edges.after(ReportEdgesTest::lengths);
        x.report(0, 1, 3, 1);
        Checks.due("60 miles", x.miles(0), 1L << 59);
        x = Edges.after(ReportEdgesTest::lengths);
        x.report(0, 1, 0, 0);
        x.report(0, 1, 2, 2);
        Checks.due("2 to 58 miles", x.miles(0), roads(2, 58));
        x.report(0, 1, 0, 2);
        Checks.due("no miles", x.miles(0), 0L);
    }

    static void promise34MilesKnownFromWhenItWasTold() {
        QuarrelMiles x = Edges.after(ReportEdgesTest::lengths);
        x.later(3);
        x.report(0, 1, 1, 0);
        Checks.due("miles(2)", x.miles(2), Edges.ALL_ROADS);
        Checks.due("miles(3)", x.miles(3), roads(3, 60));
        Checks.due("miles(4)", x.miles(4), roads(3, 60));
        Edges.onlyTells("miles", Edges::busy, y -> y.miles(7));
    }

    // ==== Promise 35: ask

    static void promise35AskAnotherWhat() {
        QuarrelMiles x = Edges.after(Edges::busy);
        for (int what : new int[] {-1, 2, 3, Edges.MIN, Edges.MAX}) {
            Checks.due("ask(" + what + ", 8)", x.ask(what, 8), -1);
        }
    }

    static void promise35AskWithoutCouples() {
        String matter = "matter m burns 1 of 1;";
        for (String text : new String[] {"", "soul p stubborn 1 short 1;" + matter, Edges.TWO, matter}) {
            for (int what = 0; what <= 1; what++) {
                Checks.due("ask of [" + text + "]", Checks.land(text).ask(what, 0), -1);
            }
        }
        Checks.due("ask of one couple", Checks.land(Edges.TWO + matter).ask(0, 0), 10);
    }

    static void promise35AskIfNoMilesCanBe() {
        QuarrelMiles x = Edges.after(ReportEdgesTest::lengths);
        x.later(1);
        x.report(0, 1, 1, 1);
        x.report(0, 1, 0, 1);
        for (int what = 0; what <= 1; what++) {
            Checks.due("ask at 1", x.ask(what, 1), -1);
            Checks.due("ask at 0 can be", x.ask(what, 0) >= 0, true);
        }
        x.untell(1);
        Checks.due("ask of one mile", x.ask(0, 1), 10);
        Checks.due("left of one mile", x.ask(1, 1), 1);
    }

    static void promise35AskOfLikeOnesTheFirst() {
        // 59 and 2 leave 58 and 58; 1 leaves 59, 60 as well, the longer ones all.
        QuarrelMiles x = Edges.after(ReportEdgesTest::lengths);
        Checks.due("ask", x.ask(0, 0), 11);
        Checks.due("left", x.ask(1, 0), 58);
        x = Checks.land(Edges.lengths(61, 99, 70));
        Checks.due("ask of long ones", x.ask(0, 0), 10);
        Checks.due("left of long ones", x.ask(1, 0), 60);
        x = Checks.land(Edges.lengths(31, 30));
        // 30: 29, 1, 30; 31: 30, 1, 29.
        Checks.due("ask of like ones", x.ask(0, 0), 10);
        Checks.due("left of like ones", x.ask(1, 0), 30);
    }

    static void promise35AskTheLastCouple() {
        // Only with f first by the last matter it is 30 miles: whoever else says the first word is done with it.
        QuarrelMiles x = Checks.land(Edges.lines("soul", " stubborn 1 short 1", 4) + "soul e stubborn 2 short 1;soul f stubborn 3 short 1;"
            + Edges.lines("matter", " burns 9 of 1", 5) + "matter f burns 30 of 1;"
            + "heat (heat - 1) * (mile > 1 or stubborn = 3 and heat = 30) * (mile < 2 or mile > 2 or stubborn = 2);back 1;");
        Checks.due("quarrel", x.quarrel(5, 4, 5), 30);
        Checks.due("ask", x.ask(0, 0), 545);
        Checks.due("left", x.ask(1, 0), 30);
    }

    static void promise35AskIsByTempersAsToldAndDoesNothing() {
        QuarrelMiles x = Checks.land("soul p stubborn 1 short 1;soul q stubborn 1 short 1;matter m burns 20 of 1;"
            + "heat heat - stubborn;back 1;draw 1;");
        x.year();
        Checks.due("left", x.ask(1, 0), 40);
        Edges.onlyTells("ask", Edges::busy, y -> y.ask(0, 8) + y.ask(1, 5));
    }

    // ==== Promise 36: image

    static void promise36ImageInABox0To2() {
        for (int box = -1; box <= 3; box++) {
            boolean isBox = box >= 0 && box <= 2;
            Checks.due("image(" + box + ") of a busy one", Edges.after(Edges::busy).image(box), isBox ? 2 : -1);
            Checks.due("image(" + box + ") of nothing", new QuarrelMiles().image(box), isBox ? 0 : -1);
        }
    }

    static void promise36ImageInNoneSuch() {
        for (int box : new int[] {-1, 3, Edges.MIN, Edges.MAX}) {
            Edges.refuses("image(" + box + ")", Edges::busy, x -> x.image(box), -1);
        }
    }

    static void promise36ImageIsNoAct() {
        QuarrelMiles x = Edges.after(Edges::busy);
        x.image(0);
        Checks.due("acts", x.about(5), Edges.after(Edges::busy).about(5));
        Checks.due("redone", x.about(6), 1);
        Checks.due("redo", x.redo(), true);
        Checks.due("words", x.walk(3), 3);
    }

    static void promise36ImageIsWordsInAll() {
        QuarrelMiles x = Checks.land("place a;place b;way a to b 2;" + Edges.lengths(50));
        Checks.due("nobody walks", x.image(0), 0);
        x.setOut(0, 1, 0, 0);
        Checks.due("no words", x.image(0), 0);
        for (int i = 1; i <= 3; i++) {
            x.take(0);
            x.words(60);
            Checks.due("words", x.image(0), 2 * i);
        }
        x.setOut(0, 1, 0, 0);
        Checks.due("set out anew", x.image(0), 0);
        x.undo();
        Checks.due("undone", x.image(0), 6);
    }

    // ==== Promise 37: back

    static void promise37BackOfNothingKept() {
        for (int box : new int[] {-1, 1, 3, Edges.MIN, Edges.MAX}) {
            Edges.refuses("back(" + box + ")", Edges::busy, x -> x.back(box), -1);
        }
        for (int box = 0; box < 3; box++) {
            Checks.due("back(" + box + ") of nothing", new QuarrelMiles().back(box), -1);
        }
    }

    static void promise37BackOfEachBox() {
        QuarrelMiles x = Checks.land("place a;place b;way a to b 9;" + Edges.lengths(50) + "draw 1;");
        x.setOut(0, 1, 0, 0);
        x.take(0);
        for (int box = 0; box < 3; box++) {
            x.words(1);
            x.year();
            Checks.due("image", x.image(box), box + 1);
        }
        int[] seeds = {208, 567, 750};
        for (int box : new int[] {1, 2, 0, 0, 2}) {
            x.words(box);
            Checks.due("back(" + box + ")", x.back(box), box + 1);
            Checks.due("words", x.walk(3), box + 1);
            Checks.due("miles", x.walk(2), box + 1);
            Checks.due("seed", x.about(4), seeds[box]);
            Checks.due("acts", x.about(5), 0);
            Checks.due("redone", x.about(6), 0);
            Checks.due("undo", x.undo(), false);
            Checks.due("redo", x.redo(), false);
        }
    }

    static void promise37BackToWhereNobodyWalks() {
        QuarrelMiles x = Checks.land(Checks.BASE + "draw 1;");
        x.image(0);
        x.setOut(0, 1, 0, 0);
        x.year();
        Checks.due("back(0)", x.back(0), 0);
        Checks.due("walk(0)", x.walk(0), -1);
        Checks.due("take(0)", x.take(0), -1);
        Checks.due("seed", x.about(4), 1);
        Checks.due("stubborn", x.soul(0, 0), 2);
    }

    /** The pile goes on from where it was, and a box is kept till another image. */
    static void promise37BackAtAnyWord() {
        QuarrelMiles x = Checks.land("place a;place b echo 7;way a to b 3;" + Edges.TWO
            + "matter m burns 9 of 1 2 3 4;heat 10 + grief;");
        x.setOut(0, 1, 0, 0);
        x.take(0);
        for (int words = 0; words <= 3; words++) {
            x.image(0);
            QuarrelMiles y = Checks.land("place a;place b echo 7;way a to b 3;" + Edges.TWO + "matter m burns 9 of 1 2 3 4;heat 10 + grief;");
            y.setOut(0, 1, 0, 0);
            y.take(0);
            y.words(words);
            x.words(2);
            x.setOut(1, 0, 0, 1);
            Checks.due("back(0) at " + words, x.back(0), words);
            for (int i = 0; i < 3; i++) {
                for (int what = 0; what < 7; what++) {
                    Checks.due("walk(" + what + ") behind " + words + " and " + i, x.walk(what), y.walk(what));
                }
                Checks.due("words(1)", x.words(1), y.words(1));
            }
            x.back(0);
            x.words(1);
        }
    }

    static void promise37BackLeavesWhatIsNotKept() {
        QuarrelMiles x = Edges.after(Edges::busy);
        int[] due = new int[14];
        for (int i = 0; i < due.length; i++) {
            due[i] = x.about(i);
        }
        Checks.due("back(0)", x.back(0), 1);
        due[5] = 0;
        due[6] = 0;
        for (int i = 0; i < due.length; i++) {
            Checks.due("about(" + i + ")", x.about(i), due[i]);
        }
        Checks.due("fault(0)", x.fault(0), 2);
        Checks.due("lies(1)", x.lies(1), 1);
        Checks.due("back(2)", x.back(2), 2);
    }

    // ==== Promise 38: about

    static void promise38AboutAnotherWhat() {
        for (int what : new int[] {-1, 14, 15, Edges.MIN, Edges.MAX}) {
            Checks.due("about(" + what + ") of nothing", new QuarrelMiles().about(what), -1);
            Checks.due("about(" + what + ") of a busy one", Edges.after(Edges::busy).about(what), -1);
        }
    }

    static void promise38AboutABusyOne() {
        // Year, setOut, take and words twice were done, words once more was taken back.
        int[] due = {3, 3, 2, 2, 208, 5, 1, 2, 2, 2, 8, 13, 2, 2};
        QuarrelMiles x = Edges.after(Edges::busy);
        for (int what = 0; what < due.length; what++) {
            Checks.due("about(" + what + ")", x.about(what), due[what]);
        }
    }

    static void promise38AboutTheFullest() {
        QuarrelMiles x = Checks.land(Edges.full());
        for (int i = 0; i < 41; i++) {
            x.setOut(0, 1, 0, 0);
        }
        x.start(0);
        for (int i = 0; i < 13; i++) {
            x.step(13);
        }
        for (int i = 0; i < 31; i++) {
            x.report(0, 1, 0, 0);
        }
        atTime(x, 100000);
        for (int i = 0; i < 81; i++) {
            x.feed(0, 0, 0, 0, 0);
        }
        int[] due = {8, 14, 6, 6, 999, 40, 0, 12, 0, 30, 100000, 1600, 60, 0};
        for (int what = 0; what < due.length; what++) {
            Checks.due("about(" + what + ")", x.about(what), due[what]);
        }
        for (int i = 0; i < 41; i++) {
            x.undo();
        }
        Checks.due("about(5)", x.about(5), 0);
        Checks.due("about(6)", x.about(6), 40);
    }

    static void promise38AboutNumbersThatLieThere() {
        QuarrelMiles x = Checks.land(Edges.lines("place", "", 8) + "way a to b 1;way b to c 1;way c to d 1;way d to e 1;way e to f 1;"
            + "way f to g 1;way g to h 1;" + Edges.lengths(7, 1));
        for (int to = 0; to < 8; to++) {
            x.shortest(0, to);
            Checks.due("about(13) behind shortest", x.about(13), to);
        }
        x.send(0, 7);
        Checks.due("about(13) behind send", x.about(13), 3);
        x.cover();
        Checks.due("about(13) behind cover", x.about(13), 1);
        x.temper(0, 1, 0, 7);
        Checks.due("about(13) behind temper", x.about(13), 4);
        x.home(0, 1, 1, 0, 1, 4);
        Checks.due("about(13) behind home", x.about(13), 1);
    }
}
