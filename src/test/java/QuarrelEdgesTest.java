/** The edges of promises 8 to 19: quarrels in open country, in earnest, along a ROUTE. */
public final class QuarrelEdgesTest {
    private static final int[] FAR = {-1, Edges.MIN, Edges.MAX};

    public static void main(String[] args) throws IllegalAccessException {
        Edges.run(QuarrelEdgesTest.class);
    }

    private static void base(QuarrelMiles x) {
        Edges.land(x, Checks.BASE);
    }

    /** A mile from a to b, two from b to c; by m it is three miles in open country, by n it never ends. */
    private static final String LINE = "place a;place b;place c;way a to b 1;way b to c 2;" + Edges.TWO
        + "matter m burns 3 of 1;matter n burns 99 of 1;heat heat - (heat < 99);back 1;";

    private static QuarrelMiles walker(String text, int matter, int place, int... ways) {
        QuarrelMiles x = Checks.land(text);
        x.setOut(0, 1, matter, place);
        for (int way : ways) {
            x.take(way);
            x.words(40);
        }
        return x;
    }

    private static void walk(String call, QuarrelMiles x, int... due) {
        for (int what = 0; what < 7; what++) {
            Checks.due("walk(" + what + ") behind " + call, x.walk(what), due[what]);
        }
    }

    private static void nobody(String call, QuarrelMiles x) {
        for (int what = 0; what < 7; what++) {
            Checks.due("walk(" + what + ") behind " + call, x.walk(what), -1);
        }
    }

    // ==== Promise 8: quarrel

    static void promise08QuarrelCouplesThatCanBe() {
        QuarrelMiles x = Checks.land(Edges.full());
        for (int one = -1; one <= 6; one++) {
            for (int other = -1; other <= 6; other++) {
                boolean canBe = one >= 0 && one < 6 && other >= 0 && other < 6 && one != other;
                Checks.due("quarrel(" + one + ", " + other + ", 5)", x.quarrel(one, other, 5), canBe ? -1 : -2);
            }
        }
        for (int matter = -1; matter <= 6; matter++) {
            Checks.due("quarrel(0, 5, " + matter + ")", x.quarrel(0, 5, matter), matter >= 0 && matter < 6 ? -1 : -2);
        }
    }

    static void promise08QuarrelCouplesThatCannotBe() {
        QuarrelMiles x = Checks.land(Checks.BASE);
        for (int far : FAR) {
            Checks.due("quarrel(" + far + ", 1, 0)", x.quarrel(far, 1, 0), -2);
            Checks.due("quarrel(0, " + far + ", 0)", x.quarrel(0, far, 0), -2);
            Checks.due("quarrel(0, 1, " + far + ")", x.quarrel(0, 1, far), -2);
        }
        Checks.due("quarrel(0, 0, 0)", x.quarrel(0, 0, 0), -2);
        Checks.due("quarrel(1, 1, 0)", x.quarrel(1, 1, 0), -2);
        Checks.due("quarrel(2, 1, 0)", x.quarrel(2, 1, 0), -2);
        Checks.due("quarrel(0, 2, 0)", x.quarrel(0, 2, 0), -2);
        Checks.due("quarrel(0, 1, 2)", x.quarrel(0, 1, 2), -2);
        Checks.due("quarrel(1, 0, 1)", x.quarrel(1, 0, 1), 8);
    }

    static void promise08QuarrelEndsAtHeat0() {
        for (int burns : new int[] {1, 2, 7, 8}) {
            Checks.due("burns " + burns, Checks.land(Edges.TWO + "matter m burns " + burns + " of 1 1 1 1 1 1 1 1;").quarrel(0, 1, 0), burns);
        }
    }

    static void promise08QuarrelEndsWithoutGriefs() {
        for (int griefs = 1; griefs <= 8; griefs++) {
            QuarrelMiles x = Checks.land(Edges.TWO + "matter m burns 99 of" + Edges.times(" 1", griefs) + ";");
            Checks.due(griefs + " griefs", x.quarrel(0, 1, 0), griefs);
            Checks.due("heat", x.heat(0, 1, 0, 200), 99 - griefs);
        }
    }

    static void promise08QuarrelEndsWithin200Words() {
        for (int words : new int[] {1, 60, 199, 200}) {
            QuarrelMiles x = Checks.land(Edges.TWO + "matter m burns 9 of 1;heat " + words + " - mile;back 1;");
            Checks.due("heat 0 behind " + words, x.quarrel(0, 1, 0), words);
            x = Checks.land(Edges.TWO + "matter m burns 9 of 1;heat 9;back mile < " + words + ";");
            Checks.due("no griefs behind " + words, x.quarrel(0, 1, 0), words);
        }
    }

    static void promise08QuarrelNeverEndsBehind200Words() {
        Checks.due("heat 0 behind 201", Checks.land(Edges.TWO + "matter m burns 9 of 1;heat 201 - mile;back 1;").quarrel(0, 1, 0), -1);
        Checks.due("no griefs behind 201", Checks.land(Edges.TWO + "matter m burns 9 of 1;heat 9;back mile < 201;").quarrel(0, 1, 0), -1);
        Checks.due("never", Checks.land(Edges.TWO + "matter m burns 9 of 1;heat 9;back 1;").quarrel(0, 1, 0), -1);
    }

    static void promise08QuarrelHasNoSightsAndNoPlaces() {
        String people = Edges.TWO + "matter m burns 9 of 1 1 1;";
        Checks.due("with sights", Checks.land("place a calm 9 echo 9;place b calm 9 echo 9;way a to b 1 sight -9;" + people).quarrel(0, 1, 0), 3);
        Checks.due("without", Checks.land(people).quarrel(0, 1, 0), 3);
    }

    static void promise08QuarrelIsByTempersAsTheyAreNow() {
        QuarrelMiles x = Checks.land("soul p stubborn 1 short 1;soul q stubborn 1 short 1;matter m burns 9 of 1 1 1;"
            + "heat heat - (stubborn = 1) * 9;draw 1;");
        Checks.due("as told", x.quarrel(0, 1, 0), 1);
        Checks.due("a year of p", x.year(), 0);
        Checks.due("now", x.quarrel(0, 1, 0), 2);
        x.undo();
        Checks.due("as told again", x.quarrel(0, 1, 0), 1);
    }

    // ==== Promise 9: heat, and what formulas come to

    static void promise09HeatOf0To200Words() {
        QuarrelMiles x = Checks.land(Edges.TWO + "matter m burns 7 of 1;heat 1 + mile % 50;back 1;");
        Checks.due("behind 0", x.heat(0, 1, 0, 0), 7);
        Checks.due("behind 1", x.heat(0, 1, 0, 1), 2);
        Checks.due("behind 199", x.heat(0, 1, 0, 199), 50);
        Checks.due("behind 200", x.heat(0, 1, 0, 200), 1);
    }

    static void promise09HeatOfOtherWords() {
        QuarrelMiles x = Checks.land(Checks.BASE);
        for (int words : new int[] {-1, 201, 202, Edges.MIN, Edges.MAX}) {
            Checks.due("behind " + words, x.heat(0, 1, 0, words), -2);
        }
    }

    static void promise09HeatOfCouplesThatCannotBe() {
        QuarrelMiles x = Checks.land(Checks.BASE);
        int[][] bad = {{-1, 1, 0}, {2, 1, 0}, {0, -1, 0}, {0, 2, 0}, {0, 0, 0}, {1, 1, 1}, {0, 1, -1}, {0, 1, 2},
            {Edges.MAX, 1, 0}, {0, Edges.MIN, 0}, {0, 1, Edges.MAX}};
        for (int[] b : bad) {
            Checks.due("heat(" + b[0] + ", " + b[1] + ", " + b[2] + ", 0)", x.heat(b[0], b[1], b[2], 0), -2);
        }
        Checks.due("heat(1, 0, 1, 0)", x.heat(1, 0, 1, 0), 9);
    }

    static void promise09HeatBehindTheLastWord() {
        QuarrelMiles x = Checks.land(Edges.TWO + "matter m burns 9 of 1 1 1;");
        int[] due = {9, 8, 7, 6, 6};
        for (int words = 0; words < due.length; words++) {
            Checks.due("behind " + words, x.heat(0, 1, 0, words), due[words]);
        }
        Checks.due("behind 200", x.heat(0, 1, 0, 200), 6);
    }

    /** What comes of a formula at the first word of p (3, 4), told as HEAT. */
    private static void comes(String formula, int due) {
        QuarrelMiles x = Checks.land("soul p stubborn 3 short 4;soul q stubborn 5 short 6;matter m burns 50 of 7 8 9;heat "
            + formula + ";");
        Checks.due("heat of " + formula, x.heat(0, 1, 0, 1), due);
    }

    static void promise09HeatIs0AtLeastAnd99AtMost() {
        comes("98", 98);
        comes("99", 99);
        comes("100", 99);
        comes("9999 * 9999", 99);
        comes("1", 1);
        comes("0", 0);
        comes("0 - 1", 0);
        comes("0 - 9999 * 9999", 0);
    }

    static void promise09HeatIsOneLessIfNotTold() {
        QuarrelMiles x = Checks.land(Edges.TWO + "matter m burns 99 of 1 1 1;matter n burns 1 of 1 1 1;back 0;");
        Checks.due("from 99", x.heat(0, 1, 0, 1), 98);
        Checks.due("from 1", x.heat(0, 1, 1, 1), 0);
        Checks.due("behind its end", x.heat(0, 1, 1, 2), 0);
        // Told as 0 it is 0, not one less.
        Checks.due("told", Checks.land(Edges.TWO + "matter m burns 99 of 1 1 1;heat 0;").heat(0, 1, 0, 1), 0);
    }

    static void promise09HeatIsByTempersAsTheyAreNow() {
        Edges.byTempersNow("heat", x -> x.heat(0, 1, 2, 2));
        Edges.byTempersNow("heat of the other", x -> x.heat(1, 0, 2, 1));
    }

    static void promise09FormulasCutAndRest() {
        comes("7 / 2", 3);
        comes("(0 - 7) / 2 + 10", 7);
        comes("7 / (0 - 2) + 10", 7);
        comes("(0 - 7) / (0 - 2)", 3);
        comes("7 % 3", 1);
        comes("(0 - 7) % 3 + 10", 9);
        comes("7 % (0 - 3)", 1);
        comes("(0 - 7) % (0 - 3) + 10", 9);
        comes("1 / 2", 0);
        comes("1 % 2", 1);
        comes("7 / 1", 7);
        comes("7 % 1", 0);
    }

    static void promise09FormulasBy0Are0() {
        comes("7 / 0 + 5", 5);
        comes("7 % 0 + 5", 5);
        comes("0 / 0 + 5", 5);
        comes("0 % 0 + 5", 5);
        comes("7 / (1 - 1) + 5", 5);
        comes("7 % (left - left) + 5", 5);
    }

    static void promise09FormulasWrap() {
        // 8192 * 8192 * 32 is 2 to the 31st.
        comes("8192 * 8192 * 32 < 0", 1);
        comes("8192 * 8192 * 32 - 1 > 0", 1);
        comes("8192 * 8192 * 16 + 8192 * 8192 * 16 < 0", 1);
        comes("0 - 8192 * 8192 * 32 < 0", 1);
        comes("8192 * 8192 * 64 + 7", 7);
        comes("8192 * 8192 * 32 / (0 - 1) = 8192 * 8192 * 32", 1);
        comes("8192 * 8192 * 32 % (0 - 1) + 7", 7);
        comes("(8192 * 8192 * 32 - 1 + 1) / 8192 / 8192 + 33", 1);
    }

    static void promise09FormulasAnswer1Or0() {
        String[] ones = {"2 < 3", "3 > 2", "3 = 3", "not 0", "7 and 9", "(0 - 1) and 2", "7 or 0", "0 or (0 - 7)", "7 or 9",
            "not not 7", "not (0 and 7)"};
        for (String one : ones) {
            comes("40 + (" + one + ")", 41);
        }
        String[] zeros = {"3 < 3", "3 < 2", "3 > 3", "2 > 3", "2 = 3", "3 = 2", "not 1", "not 7", "not (0 - 1)", "0 and 7",
            "7 and 0", "0 and 0", "0 or 0", "not not 0"};
        for (String zero : zeros) {
            comes("40 + (" + zero + ")", 40);
        }
    }

    static void promise09FormulasBind() {
        comes("40 + (1 or 1 and 0)", 41);
        comes("40 + (0 and 0 or 1)", 41);
        comes("40 + (not 1 and 0)", 40);
        comes("40 + (not 0 or 1)", 41);
        comes("40 + (not 1 = 2)", 41);
        comes("40 + (not 2 > 1)", 40);
        comes("40 + (not 1 - 1)", 41);
        comes("2 + 3 * 4", 14);
        comes("20 - 3 - 4", 13);
        comes("20 / 2 * 5", 50);
        comes("20 % 7 * 2", 12);
        comes("40 + (1 + 1 = 2)", 41);
    }

    static void promise09FormulasKnow() {
        String[] units = {"heat", "grief", "stubborn", "short", "mile", "left"};
        int[] due = {50, 9, 3, 4, 1, 2};
        for (int i = 0; i < units.length; i++) {
            comes(units[i], due[i]);
        }
        // At the second word the other one speaks; heat and grief are as they were ahead of it.
        int[] second = {50, 8, 5, 6, 2, 1};
        for (int i = 0; i < units.length; i++) {
            QuarrelMiles x = Checks.land("soul p stubborn 3 short 4;soul q stubborn 5 short 6;matter m burns 50 of 7 8 9;heat "
                + "(mile = 1) * 50 + (mile = 2) * " + units[i] + ";");
            Checks.due(units[i] + " at the second word", x.heat(0, 1, 0, 2), second[i]);
        }
    }

    /** As much as can be waiting for what is behind it: by 30 units, four brackets and three nots. */
    static void promise09FormulasOf30UnitsThatWait() {
        String wait = "0 or 1 and 2 > 1 - 1 * ";
        String waitWithNot = "0 or 1 and not 2 < 1 - 1 * ";
        comes((waitWithNot + "(").repeat(3) + wait + "(" + wait + "1" + ")".repeat(4), 1);
        comes("(".repeat(7) + "1" + "+1".repeat(22) + ")".repeat(7), 23);
        comes("1" + "+1".repeat(29), 30);
        comes("99" + "-1".repeat(29), 70);
        comes("1" + "*1".repeat(28) + "*7", 7);
    }

    static void promise09FormulasOf30UnitsWith7NotsEach() {
        String nots = "not ".repeat(7);
        comes(nots + "1" + (" or " + nots + "1").repeat(29), 0);
        comes(nots + "1" + (" or " + nots + "1").repeat(28) + " or " + nots + "0", 1);
        comes(nots + "0" + (" and " + nots + "0").repeat(29), 1);
        comes(nots + "0" + (" and " + nots + "0").repeat(28) + " and " + nots + "1", 0);
    }

    static void promise09BackIsAGriefIfMoreThan0() {
        for (String none : new String[] {"0", "0 - 1", "0 - 9999", "8192 * 8192 * 32"}) {
            Checks.due("back " + none, Checks.land(Edges.TWO + "matter m burns 99 of 1;back " + none + ";").quarrel(0, 1, 0), 1);
        }
        Checks.due("back 1", Checks.land(Edges.TWO + "matter m burns 99 of 1;back 1;").quarrel(0, 1, 0), 99);
        Checks.due("back not told", Checks.land(Edges.TWO + "matter m burns 99 of 1;").quarrel(0, 1, 0), 1);
    }

    static void promise09BackIs9AtMostAndGoesOnTop() {
        int[] backs = {1, 8, 9, 10, 9999};
        int[] griefs = {1, 8, 9, 9, 9};
        for (int i = 0; i < backs.length; i++) {
            QuarrelMiles x = Checks.land(Edges.TWO + "matter m burns 99 of 2 3;heat 10 + grief;back " + backs[i] + ";");
            Checks.due("the last one told", x.heat(0, 1, 0, 1), 13);
            Checks.due("grief of back " + backs[i], x.heat(0, 1, 0, 2), 10 + griefs[i]);
        }
    }

    static void promise09BackKnowsHeatAsItWas() {
        QuarrelMiles x = Checks.land(Edges.TWO + "matter m burns 5 of 3;heat 60 + grief;back heat;");
        // 5 comes back behind word 1, whose heat becomes 63.
        Checks.due("heat 1", x.heat(0, 1, 0, 1), 63);
        Checks.due("heat 2", x.heat(0, 1, 0, 2), 65);
        Checks.due("heat 3", x.heat(0, 1, 0, 3), 69);
    }

    static void promise09LeftIsUnderTheGrief() {
        QuarrelMiles x = Checks.land(Edges.TWO + "matter m burns 5 of 1 1 1 1 1 1 1 1;heat 10 + left;back mile = 8;");
        for (int words = 1; words <= 8; words++) {
            Checks.due("heat " + words, x.heat(0, 1, 0, words), 18 - words);
        }
        Checks.due("heat 9", x.heat(0, 1, 0, 9), 10);
        Checks.due("quarrel", x.quarrel(0, 1, 0), 9);
    }

    // ==== Promise 10: setOut

    static void promise10SetOutFirstAndLast() {
        QuarrelMiles x = Checks.land(Edges.full());
        Checks.due("setOut(0, 1, 0, 0)", x.setOut(0, 1, 0, 0), 1);
        walk("setOut(0, 1, 0, 0)", x, 0, -1, 0, 0, 9, 1, 0);
        Checks.due("setOut(5, 4, 5, 7)", x.setOut(5, 4, 5, 7), 1);
        walk("setOut(5, 4, 5, 7)", x, 7, -1, 0, 0, 9, 1, 0);
        Checks.due("acts", x.about(5), 2);
    }

    static void promise10SetOutThatCannotBe() {
        int[][] bad = {{-1, 1, 0, 0}, {2, 1, 0, 0}, {0, -1, 0, 0}, {0, 2, 0, 0}, {0, 0, 0, 0}, {1, 1, 0, 0}, {0, 1, -1, 0},
            {0, 1, 2, 0}, {0, 1, 0, -1}, {0, 1, 0, 3}, {Edges.MAX, 1, 0, 0}, {0, Edges.MIN, 0, 0}, {0, 1, Edges.MAX, 0},
            {0, 1, 0, Edges.MAX}, {0, 1, 0, Edges.MIN}};
        for (int[] b : bad) {
            String call = "setOut(" + b[0] + ", " + b[1] + ", " + b[2] + ", " + b[3] + ")";
            Edges.refuses(call, Edges::busy, x -> x.setOut(b[0], b[1], b[2], b[3]), -1);
            Edges.refuses(call + " ahead of any", QuarrelEdgesTest::base, x -> x.setOut(b[0], b[1], b[2], b[3]), -1);
        }
    }

    static void promise10SetOutWhoWalkedWalkNoMore() {
        QuarrelMiles x = Edges.after(Edges::busy);
        Checks.due("setOut", x.setOut(1, 0, 1, 2), 1);
        walk("setOut", x, 2, -1, 0, 0, 9, 2, 0);
        Checks.due("redone", x.about(6), 0);
        // Whose quarrel has ended may set out again.
        x = walker(LINE, 0, 0, 0, 1);
        Checks.due("ended", x.walk(6), 1);
        Checks.due("setOut", x.setOut(0, 1, 0, 0), 1);
        walk("setOut again", x, 0, -1, 0, 0, 3, 1, 0);
    }

    // ==== Promise 11: take

    static void promise11TakeIsRefusedIfNobodyWalks() {
        Edges.refuses("take(0)", QuarrelEdgesTest::base, x -> x.take(0), -1);
        Edges.refuses("take(0) behind undo", x -> {
            base(x);
            x.setOut(0, 1, 0, 0);
            x.undo();
        }, x -> x.take(0), -1);
    }

    static void promise11TakeIsRefusedForNoneSuch() {
        for (int way : new int[] {-1, 3, 14, Edges.MIN, Edges.MAX}) {
            Edges.refuses("take(" + way + ")", x -> {
                base(x);
                x.setOut(0, 1, 0, 0);
            }, x -> x.take(way), -1);
        }
    }

    static void promise11TakeIsOfEitherEnd() {
        // Ways a b, b c, a c: from each place two of them.
        int[] miles = {3, 2, 6};
        for (int place = 0; place < 3; place++) {
            for (int way = 0; way < 3; way++) {
                boolean canBe = !(place == 0 && way == 1 || place == 1 && way == 2 || place == 2 && way == 0);
                QuarrelMiles x = walker(Checks.BASE, 0, place);
                Checks.due("take(" + way + ") at " + place, x.take(way), canBe ? miles[way] : -1);
                Checks.due("acts", x.about(5), canBe ? 2 : 1);
                Checks.due("walk(1)", x.walk(1), canBe ? way : -1);
            }
        }
    }

    static void promise11TakeIsRefusedFromElsewhere() {
        Edges.refuses("take(1)", x -> {
            base(x);
            x.setOut(0, 1, 0, 0);
        }, x -> x.take(1), -1);
    }

    static void promise11TakeIsRefusedOnAWay() {
        for (int words = 0; words <= 2; words++) {
            int said = words;
            for (int way = 0; way < 3; way++) {
                int taken = way;
                Edges.refuses("take(" + way + ") behind " + words + " words", x -> {
                    base(x);
                    x.setOut(0, 1, 1, 0);
                    x.take(0);
                    x.words(said);
                }, x -> x.take(taken), -1);
            }
        }
        QuarrelMiles x = walker(Checks.BASE, 1, 0, 0);
        Checks.due("take at its end", x.take(0), 3);
    }

    static void promise11TakeIsRefusedIfItHasEnded() {
        // On the way, and just at its end.
        Edges.refuses("take(2)", x -> {
            base(x);
            x.setOut(0, 1, 0, 0);
            x.take(2);
            x.words(9);
        }, x -> x.take(2), -1);
        Edges.refuses("take(1)", x -> {
            base(x);
            x.setOut(0, 1, 0, 0);
            x.take(0);
            x.words(9);
        }, x -> x.take(1), -1);
    }

    static void promise11TakeWaysOf1And40Miles() {
        QuarrelMiles x = Checks.land("place a;place b;way a to b 1;way a to b 40;" + Edges.lengths(50));
        x.setOut(0, 1, 0, 0);
        Checks.due("take(0)", x.take(0), 1);
        Checks.due("words(2)", x.words(2), 1);
        Checks.due("take(1)", x.take(1), 40);
        Checks.due("words(39)", x.words(39), 39);
        walk("39 words", x, 1, 1, 39, 40, 10, 1, 0);
        Checks.due("words(2)", x.words(2), 1);
        walk("40 words", x, 0, -1, 0, 41, 9, 1, 0);
    }

    // ==== Promise 12: words, and a WAY's edges

    static void promise12WordsOf0To60() {
        QuarrelMiles x = Checks.land("place a;place b;way a to b 40;" + Edges.lengths(99));
        x.setOut(0, 1, 0, 0);
        x.take(0);
        Checks.due("words(0)", x.words(0), 0);
        Checks.due("words(1)", x.words(1), 1);
        Checks.due("words(60)", x.words(60), 39);
        x.take(0);
        Checks.due("words(59)", x.words(59), 40);
        Checks.due("acts", x.about(5), 7);
    }

    static void promise12WordsOfAnotherNumber() {
        for (int n : new int[] {-1, 61, 62, Edges.MIN, Edges.MAX}) {
            Edges.refuses("words(" + n + ")", Edges::busy, x -> x.words(n), -1);
            Edges.refuses("words(" + n + ") at a place", x -> {
                base(x);
                x.setOut(0, 1, 0, 0);
            }, x -> x.words(n), -1);
        }
    }

    static void promise12WordsIfNobodyWalks() {
        for (int n : new int[] {-1, 0, 1, 60, 61}) {
            Edges.refuses("words(" + n + ")", QuarrelEdgesTest::base, x -> x.words(n), -1);
        }
    }

    static void promise12WordsNoneAtAPlace() {
        QuarrelMiles x = walker(Checks.BASE, 1, 0);
        Checks.due("words(60)", x.words(60), 0);
        Checks.due("acts", x.about(5), 2);
        walk("words at a place", x, 0, -1, 0, 0, 9, 2, 0);
        x.take(0);
        x.words(60);
        Checks.due("words(60) at the end of a way", x.words(60), 0);
        Checks.due("acts", x.about(5), 5);
    }

    static void promise12WordsNoneBehindItsEnd() {
        QuarrelMiles x = walker(Checks.BASE, 0, 0, 2);
        walk("its end", x, 0, 2, 5, 5, 0, 1, 1);
        Checks.due("words(60)", x.words(60), 0);
        walk("words behind its end", x, 0, 2, 5, 5, 0, 1, 1);
        Checks.due("acts", x.about(5), 4);
    }

    static void promise12WordsTillTheEndOfTheWay() {
        for (int n = 0; n <= 4; n++) {
            QuarrelMiles x = walker(LINE, 1, 1);
            x.take(1);
            Checks.due("words(" + n + ") on two miles", x.words(n), Math.min(n, 2));
            Checks.due("walk(0)", x.walk(0), n < 2 ? 1 : 2);
            Checks.due("walk(1)", x.walk(1), n < 2 ? 1 : -1);
            Checks.due("walk(2)", x.walk(2), n < 2 ? n : 0);
        }
    }

    static void promise12WordsTillItEnds() {
        for (int n = 0; n <= 7; n++) {
            QuarrelMiles x = walker(Checks.BASE, 0, 0);
            x.take(2);
            Checks.due("words(" + n + ") of five", x.words(n), Math.min(n, 5));
            Checks.due("walk(6)", x.walk(6), n < 5 ? 0 : 1);
            Checks.due("walk(1)", x.walk(1), 2);
        }
    }

    /** How HEAT and GRIEFS are at the end of a mile by a matter that burns 50 of two griefs. */
    private static void atTheEnd(String call, String places, String sight, String rules, int heat, int griefs) {
        QuarrelMiles x = walker(places + "way a to b 1" + sight + ";" + Edges.TWO + "matter m burns 50 of 1 1;" + rules, 0, 0, 0);
        Checks.due("heat of " + call, x.walk(4), heat);
        Checks.due("griefs of " + call, x.walk(5), griefs);
        Checks.due("ended of " + call, x.walk(6), heat == 0 || griefs == 0 ? 1 : 0);
    }

    private static final String AB = "place a;place b;";

    static void promise12SightIsAddedUpTo99() {
        atTheEnd("sight 9", AB, " sight 9", "heat 89;", 98, 1);
        atTheEnd("sight 9", AB, " sight 9", "heat 90;", 99, 1);
        atTheEnd("sight 9", AB, " sight 9", "heat 91;", 99, 1);
        // Heat is 99 at most ahead of it.
        atTheEnd("sight -9", AB, " sight -9", "heat 9999;", 90, 1);
    }

    static void promise12SightIsAddedDownTo0() {
        atTheEnd("sight -9", AB, " sight -9", "heat 10;", 1, 1);
        atTheEnd("sight -9", AB, " sight -9", "heat 9;", 0, 1);
        atTheEnd("sight -9", AB, " sight -9", "heat 8;", 0, 1);
        // Heat is 0 at least ahead of it, and what is more then is no end.
        atTheEnd("sight 9", AB, " sight 9", "heat 0 - 9999;", 9, 1);
        atTheEnd("sight 0", AB, " sight 0", "heat 0;", 0, 1);
    }

    /** On a way, not at its end, where a calm of 0 would mend it. */
    static void promise12SightIsAddedWithin0And99OnAWay() {
        QuarrelMiles x = Checks.land(AB + "way a to b 2 sight -9;way a to b 2 sight 9;" + Edges.TWO
            + "matter m burns 8 of 1 1 1;matter n burns 99 of 1 1 1;heat heat;");
        x.setOut(0, 1, 0, 0);
        x.take(0);
        Checks.due("words(2)", x.words(2), 1);
        walk("sight -9", x, 0, 0, 1, 1, 0, 2, 1);
        x.setOut(0, 1, 1, 0);
        x.take(1);
        x.words(1);
        walk("sight 9", x, 0, 1, 1, 1, 99, 2, 0);
    }

    static void promise12SightIsOfEachMile() {
        QuarrelMiles x = Checks.land(AB + "way a to b 3 sight 5;" + Edges.lengths(50));
        x.setOut(0, 1, 0, 1);
        x.take(0);
        for (int i = 1; i <= 3; i++) {
            x.words(1);
            Checks.due("heat " + i, x.walk(4), 50 + 4 * i);
        }
    }

    static void promise12CalmIs0AtLeast() {
        atTheEnd("calm 9", "place a;place b calm 9;", "", "heat 10;", 1, 1);
        atTheEnd("calm 9", "place a;place b calm 9;", "", "heat 9;", 0, 1);
        atTheEnd("calm 9", "place a;place b calm 9;", "", "heat 8;", 0, 1);
        atTheEnd("calm 0", "place a calm 9;place b calm 0;", "", "heat 8;", 8, 1);
        // Behind the sight, which is 99 at most.
        atTheEnd("calm 9 and sight 9", "place a;place b calm 9;", " sight 9", "heat 99;", 90, 1);
        atTheEnd("calm 9 and sight -9", "place a;place b calm 9;", " sight -9", "heat 18;", 0, 1);
        atTheEnd("calm 9 and sight -9", "place a;place b calm 9;", " sight -9", "heat 19;", 1, 1);
    }

    static void promise12CalmAndEchoAreAtTheEndOfAWayAlone() {
        QuarrelMiles x = Checks.land("place a calm 9 echo 9;place b calm 3 echo 7;way a to b 2;" + Edges.lengths(50));
        x.setOut(0, 1, 0, 0);
        x.take(0);
        x.words(1);
        walk("the first mile", x, 0, 0, 1, 1, 49, 1, 0);
        x.words(1);
        walk("the end", x, 1, -1, 0, 2, 45, 2, 0);
        x.take(0);
        x.words(1);
        walk("a mile back", x, 1, 0, 1, 3, 44, 2, 0);
        x.words(1);
        walk("the other end", x, 0, -1, 0, 4, 34, 3, 0);
    }

    static void promise12EchoOfMoreThan0GoesOnTop() {
        atTheEnd("echo 0", "place a echo 9;place b echo 0;", "", "", 49, 1);
        for (int echo : new int[] {1, 9}) {
            atTheEnd("echo " + echo, "place a;place b echo " + echo + ";", "", "", 49, 2);
            QuarrelMiles x = walker("place a;place b echo " + echo + ";way a to b 1;" + Edges.TWO
                + "matter m burns 50 of 4 5;heat 10 + grief;", 0, 0, 0);
            x.take(0);
            x.words(1);
            Checks.due("the grief of an echo", x.walk(4), 10 + echo);
        }
    }

    static void promise12EchoIfThereAreFewerThan20Griefs() {
        QuarrelMiles x = Checks.land("place a echo 3;place b echo 3;way a to b 1;" + Edges.TWO
            + "matter m burns 50 of 1 1 1 1 1 1 1 1;heat 10 + grief;back 2;");
        x.setOut(0, 1, 0, 0);
        for (int i = 1; i <= 12; i++) {
            x.take(0);
            x.words(1);
            Checks.due("griefs behind " + i, x.walk(5), 8 + i);
        }
        // There are 20 now: the grief that comes back is left on top, and the next word takes it.
        x.take(0);
        x.words(1);
        Checks.due("griefs behind 13", x.walk(5), 20);
        Checks.due("heat behind 13", x.walk(4), 13);
        x.take(0);
        x.words(1);
        Checks.due("griefs behind 14", x.walk(5), 20);
        Checks.due("heat behind 14", x.walk(4), 12);
    }

    static void promise12EndsWithAllThat() {
        // The last grief is said, but an echo comes.
        String people = Edges.TWO + "matter m burns 50 of 1;";
        QuarrelMiles x = walker("place a;place b echo 1;way a to b 1;" + people, 0, 0, 0);
        walk("an echo", x, 1, -1, 0, 1, 49, 1, 0);
        Checks.due("take", x.take(0), 1);
        // Heat is 0, but a sight comes.
        x = walker(AB + "way a to b 2 sight 1;" + Edges.TWO + "matter m burns 50 of 1 1 1;heat 0;", 0, 0, 0);
        walk("a sight", x, 1, -1, 0, 2, 1, 1, 0);
        // A calm is an end, and an echo no help.
        x = walker("place a;place b calm 9 echo 9;way a to b 1;" + Edges.TWO + "matter m burns 10 of 1;", 0, 0, 0);
        walk("a calm", x, 1, -1, 0, 1, 0, 1, 1);
    }

    static void promise12WordsGoOnBehind200() {
        QuarrelMiles x = Checks.land(AB + "way a to b 40;" + Edges.TWO + "matter m burns 9 of 1;heat 222 - mile;back 1;");
        x.setOut(0, 1, 0, 0);
        for (int i = 1; i <= 5; i++) {
            x.take(0);
            Checks.due("words(60)", x.words(60), 40);
        }
        x.take(0);
        Checks.due("words(60)", x.words(60), 22);
        Checks.due("walk(3)", x.walk(3), 222);
        Checks.due("walk(6)", x.walk(6), 1);
    }

    // ==== Promise 13: year

    static void promise13YearWithoutSouls() {
        Edges.refuses("year()", x -> Edges.land(x, "place a;matter m burns 1 of 1;draw 5;"), x -> x.year(), -1);
        Checks.due("year() of nothing", new QuarrelMiles().year(), -1);
    }

    static void promise13YearOf1And6Souls() {
        for (int souls = 1; souls <= 6; souls++) {
            for (int draw : new int[] {0, 1, 7, 500, 998, 999}) {
                QuarrelMiles x = Checks.land(Edges.lines("soul", " stubborn 0 short 0", souls) + "draw " + draw + ";");
                int seed = (draw * 137 + 71) % 1000;
                Checks.due("year()", x.year(), seed % souls);
                Checks.due("seed", x.about(4), seed);
                boolean isStubborn = seed / 10 % 2 == 0;
                for (int soul = 0; soul < souls; soul++) {
                    boolean isIt = soul == seed % souls;
                    Checks.due("stubborn of " + soul + " by " + seed, x.soul(soul, 0), isIt && isStubborn ? 1 : 0);
                    Checks.due("short of " + soul + " by " + seed, x.soul(soul, 1), isIt && !isStubborn ? 1 : 0);
                }
            }
        }
    }

    static void promise13YearTo9AtMost() {
        // 71 by 0: shorter; 208 by 1: more stubborn.
        for (int draw = 0; draw <= 1; draw++) {
            for (int temper = 7; temper <= 9; temper++) {
                QuarrelMiles x = Checks.land("soul p stubborn " + temper + " short " + temper + ";draw " + draw + ";");
                Checks.due("year()", x.year(), 0);
                Checks.due("the temper", x.soul(0, 1 - draw), Math.min(9, temper + 1));
                Checks.due("the other one", x.soul(0, draw), temper);
                Checks.due("acts", x.about(5), 1);
            }
        }
    }

    static void promise13YearSeedWithoutDrawIs0() {
        QuarrelMiles x = Checks.land("soul p stubborn 0 short 0;");
        Checks.due("seed", x.about(4), 0);
        x.year();
        Checks.due("seed a year later", x.about(4), 71);
        x.year();
        Checks.due("seed two years later", x.about(4), 798);
    }

    // ==== Promise 14: walk

    static void promise14WalkIfNobodyDoes() {
        nobody("nothing", new QuarrelMiles());
        QuarrelMiles x = Checks.land(Checks.BASE);
        nobody("land", x);
        x.setOut(0, 0, 0, 0);
        nobody("setOut that can't be", x);
        x.setOut(0, 1, 0, 0);
        x.undo();
        nobody("undo", x);
    }

    static void promise14WalkAnotherWhat() {
        for (int what : new int[] {-1, 7, 8, Edges.MIN, Edges.MAX}) {
            Checks.due("walk(" + what + ") of a busy one", Edges.after(Edges::busy).walk(what), -1);
            Checks.due("walk(" + what + ") of nothing", new QuarrelMiles().walk(what), -1);
        }
    }

    static void promise14WalkAtAPlaceAndOnAWay() {
        QuarrelMiles x = walker(LINE, 1, 2);
        walk("setOut", x, 2, -1, 0, 0, 99, 1, 0);
        x.take(1);
        walk("take", x, 2, 1, 0, 0, 99, 1, 0);
        x.words(1);
        walk("a word", x, 2, 1, 1, 1, 99, 1, 0);
        x.words(1);
        walk("the end of the way", x, 1, -1, 0, 2, 99, 1, 0);
        x.take(0);
        x.words(1);
        walk("the end of the next way", x, 0, -1, 0, 3, 99, 1, 0);
    }

    // ==== Promises 15 and 16: undo, redo

    static void promise15UndoWithoutActs() {
        Checks.due("undo of nothing", new QuarrelMiles().undo(), false);
        Edges.refuses("undo", QuarrelEdgesTest::base, x -> x.undo() ? 1 : 0, 0);
        Edges.refuses("undo of all", x -> {
            Edges.busy(x);
            for (int i = 0; i < 9; i++) {
                x.undo();
            }
        }, x -> x.undo() ? 1 : 0, 0);
    }

    static void promise15UndoOfEachAct() {
        QuarrelMiles x = Checks.land(Checks.BASE + "draw 1;");
        x.setOut(0, 1, 0, 0);
        x.take(0);
        x.words(0);
        x.words(2);
        x.year();
        Checks.due("acts", x.about(5), 5);
        x.undo();
        Checks.due("seed", x.about(4), 1);
        Checks.due("stubborn", x.soul(0, 0), 2);
        Checks.due("words", x.walk(3), 2);
        x.undo();
        walk("undo of words", x, 0, 0, 0, 0, 5, 3, 0);
        x.undo();
        walk("undo of no words", x, 0, 0, 0, 0, 5, 3, 0);
        x.undo();
        walk("undo of take", x, 0, -1, 0, 0, 5, 3, 0);
        Checks.due("undo", x.undo(), true);
        nobody("undo of setOut", x);
        Checks.due("undo", x.undo(), false);
        Checks.due("acts", x.about(5), 0);
        Checks.due("redone", x.about(6), 5);
    }

    private static final String UNLIKE = "place a;place b;way a to b 9;soul p stubborn 1 short 1;soul q stubborn 2 short 2;"
        + "soul r stubborn 3 short 3;matter m burns 9 of 1 2 3 4;matter n burns 9 of 8 7 6 5 9;heat 10 * stubborn + grief;";

    /** One went on with other things, and was taken back: it goes on as the other one does. */
    private static void alike(String call, QuarrelMiles x, QuarrelMiles y) {
        for (int i = 0; i < 5; i++) {
            for (int what = 0; what < 7; what++) {
                Checks.due("walk(" + what + ") behind " + call + " and " + i, x.walk(what), y.walk(what));
            }
            Checks.due("words(1) behind " + call, x.words(1), y.words(1));
        }
    }

    static void promise15UndoBringsBackWhoWalked() {
        for (int words = 0; words <= 3; words++) {
            QuarrelMiles x = Checks.land(UNLIKE);
            QuarrelMiles y = Checks.land(UNLIKE);
            x.setOut(0, 1, 0, 0);
            y.setOut(0, 1, 0, 0);
            x.take(0);
            y.take(0);
            x.words(words);
            y.words(words);
            x.setOut(2, 0, 1, 1);
            x.take(0);
            x.words(5);
            x.undo();
            x.undo();
            x.undo();
            alike("undo of setOut behind " + words, x, y);
        }
    }

    static void promise16RedoBringsBackWhoWalked() {
        QuarrelMiles x = Checks.land(UNLIKE);
        QuarrelMiles y = Checks.land(UNLIKE);
        x.setOut(0, 1, 0, 0);
        x.setOut(2, 0, 1, 1);
        y.setOut(2, 0, 1, 1);
        x.take(0);
        y.take(0);
        x.words(1);
        y.words(1);
        x.undo();
        x.undo();
        x.undo();
        x.redo();
        x.redo();
        x.redo();
        alike("redo", x, y);
    }

    private static QuarrelMiles years(int years) {
        QuarrelMiles x = Checks.land("soul p stubborn 0 short 0;draw 3;");
        for (int i = 0; i < years; i++) {
            x.year();
        }
        return x;
    }

    static void promise15UndoKeeps40Acts() {
        for (int acts : new int[] {39, 40, 41, 42, 81, 82, 83, 123, 200}) {
            QuarrelMiles x = years(acts);
            int kept = Math.min(40, acts);
            Checks.due("acts of " + acts, x.about(5), kept);
            for (int i = 1; i <= kept; i++) {
                Checks.due("undo " + i + " of " + acts, x.undo(), true);
            }
            Checks.due("seed", x.about(4), years(acts - kept).about(4));
            Checks.due("stubborn", x.soul(0, 0), years(acts - kept).soul(0, 0));
            Checks.due("one undo more", x.undo(), false);
            Checks.due("redone", x.about(6), kept);
        }
    }

    static void promise15UndoTheOldestGo() {
        QuarrelMiles x = Checks.land(Checks.BASE);
        x.setOut(0, 1, 0, 0);
        for (int i = 0; i < 40; i++) {
            x.words(0);
        }
        for (int i = 0; i < 40; i++) {
            Checks.due("undo " + i, x.undo(), true);
        }
        Checks.due("undo of setOut", x.undo(), false);
        Checks.due("they walk", x.walk(0), 0);
    }

    static void promise15UndoneOnesCountAmong40() {
        QuarrelMiles x = years(60);
        for (int i = 0; i < 10; i++) {
            x.undo();
        }
        Checks.due("acts", x.about(5), 30);
        Checks.due("redone", x.about(6), 10);
        for (int i = 1; i <= 15; i++) {
            x.year();
            Checks.due("acts behind " + i, x.about(5), Math.min(40, 30 + i));
            Checks.due("redone behind " + i, x.about(6), 0);
        }
        Checks.due("seed", x.about(4), years(65).about(4));
        for (int i = 0; i < 40; i++) {
            x.undo();
        }
        Checks.due("seed of the oldest", x.about(4), years(25).about(4));
    }

    static void promise16RedoWithoutUndo() {
        Checks.due("redo of nothing", new QuarrelMiles().redo(), false);
        Edges.refuses("redo", QuarrelEdgesTest::base, x -> x.redo() ? 1 : 0, 0);
        Edges.refuses("redo of all", x -> {
            Edges.busy(x);
            x.redo();
        }, x -> x.redo() ? 1 : 0, 0);
    }

    static void promise16RedoOf40() {
        QuarrelMiles x = years(50);
        for (int i = 0; i < 40; i++) {
            x.undo();
        }
        for (int i = 1; i <= 40; i++) {
            Checks.due("redo " + i, x.redo(), true);
            Checks.due("seed " + i, x.about(4), years(10 + i).about(4));
        }
        Checks.due("redo 41", x.redo(), false);
        Checks.due("seed", x.about(4), years(50).about(4));
    }

    static void promise16RedoTillAnotherAct() {
        Edges.Act[] acts = {x -> x.setOut(0, 1, 0, 0), x -> x.take(0), x -> x.words(0), x -> x.words(1), QuarrelMiles::year};
        for (int i = 0; i < acts.length; i++) {
            QuarrelMiles x = Checks.land(Checks.BASE);
            x.setOut(0, 1, 0, 0);
            x.year();
            x.undo();
            Checks.due("redone ahead of act " + i, x.about(6), 1);
            acts[i].on(x);
            Checks.due("redone behind act " + i, x.about(6), 0);
            Checks.due("redo behind act " + i, x.redo(), false);
            Checks.due("acts behind act " + i, x.about(5), 2);
        }
    }

    /** What is refused, or is no ACT, leaves what was taken back. */
    static void promise16RedoBehindWhatIsNoAct() {
        Edges.Act[] others = {x -> x.setOut(0, 0, 0, 0), x -> x.take(5), x -> x.words(61), x -> x.start(0), x -> x.step(0),
            x -> x.shortest(0, 1), x -> x.report(0, 1, 0, 0), x -> x.untell(1), x -> x.later(1), x -> x.image(1), x -> x.back(1),
            x -> x.feed(0, 0, 0, 0, 0), x -> x.end(0)};
        for (int i = 0; i < others.length; i++) {
            QuarrelMiles x = Edges.after(Edges::busy);
            Checks.due("redone ahead of " + i, x.about(6), 1);
            others[i].on(x);
            Checks.due("redone behind " + i, x.about(6), 1);
            Checks.due("redo behind " + i, x.redo(), true);
        }
    }

    // ==== Promise 17: start

    static void promise17StartFirstAndLast() {
        for (int places = 1; places <= 8; places++) {
            QuarrelMiles x = Checks.land(Edges.lines("place", "", places));
            for (int place : new int[] {0, places - 1}) {
                Checks.due("start(" + place + ")", x.start(place), 1);
                Checks.due("its ways", x.about(7), 0);
                Checks.due("its end", x.about(8), place);
            }
            Checks.due("start(" + places + ")", x.start(places), -1);
        }
    }

    static void promise17StartOfNoneSuch() {
        for (int place : new int[] {-1, 3, 8, Edges.MIN, Edges.MAX}) {
            Edges.refuses("start(" + place + ")", Edges::busy, x -> x.start(place), -1);
            Edges.refuses("start(" + place + ") without a route", QuarrelEdgesTest::base, x -> x.start(place), -1);
        }
    }

    static void promise17StartHasNoWays() {
        QuarrelMiles x = Edges.after(Edges::busy);
        Checks.due("ways of a busy one", x.about(7), 2);
        Checks.due("start(1)", x.start(1), 1);
        Checks.due("ways", x.about(7), 0);
        Checks.due("heat", x.walked(0, 1, 0, 3), 5);
    }

    // ==== Promise 18: step

    static void promise18StepWithoutARoute() {
        for (int way : new int[] {-1, 0, 1, 2, 3}) {
            Edges.refuses("step(" + way + ")", QuarrelEdgesTest::base, x -> x.step(way), -1);
        }
    }

    static void promise18StepOfEitherEnd() {
        for (int place = 0; place < 3; place++) {
            for (int way = 0; way < 3; way++) {
                boolean canBe = !(place == 0 && way == 1 || place == 1 && way == 2 || place == 2 && way == 0);
                QuarrelMiles x = Checks.land(Checks.BASE);
                x.start(place);
                Checks.due("step(" + way + ") at " + place, x.step(way), canBe ? 1 : -1);
                Checks.due("ways", x.about(7), canBe ? 1 : 0);
                Checks.due("end", x.about(8), !canBe ? place : x.way(way, 0) + x.way(way, 1) - place);
            }
        }
    }

    static void promise18StepThatDoesNotLeadOn() {
        // The busy route ends at c, where way 0 does not begin.
        for (int way : new int[] {-1, 0, 3, 14, Edges.MIN, Edges.MAX}) {
            Edges.refuses("step(" + way + ")", Edges::busy, x -> x.step(way), -1);
        }
    }

    static void promise18StepTwelveAtMost() {
        QuarrelMiles x = Checks.land(Checks.BASE);
        x.start(0);
        for (int i = 1; i <= 12; i++) {
            Checks.due("step " + i, x.step(0), i);
            Checks.due("its end", x.about(8), i % 2);
        }
        Checks.due("step 13", x.step(0), -1);
        Edges.refuses("step 13", y -> {
            base(y);
            y.start(0);
            for (int i = 0; i < 12; i++) {
                y.step(0);
            }
        }, y -> y.step(0), -1);
    }

    // ==== Promise 19: walked

    static void promise19WalkedWithoutARoute() {
        QuarrelMiles x = Checks.land(Checks.BASE);
        for (int what = 0; what <= 3; what++) {
            Checks.due("walked what " + what, x.walked(0, 1, 0, what), -2);
        }
    }

    static void promise19WalkedByNoneSuch() {
        QuarrelMiles x = Edges.after(Edges::busy);
        int[][] bad = {{-1, 1, 0}, {2, 1, 0}, {0, -1, 0}, {0, 2, 0}, {0, 0, 0}, {1, 1, 0}, {0, 1, -1}, {0, 1, 2},
            {Edges.MIN, 1, 0}, {0, Edges.MAX, 0}, {0, 1, Edges.MIN}};
        for (int[] b : bad) {
            for (int what = 0; what <= 3; what++) {
                Checks.due("walked(" + b[0] + ", " + b[1] + ", " + b[2] + ", " + what + ")", x.walked(b[0], b[1], b[2], what), -2);
            }
        }
    }

    static void promise19WalkedAnotherWhat() {
        QuarrelMiles x = Edges.after(Edges::busy);
        for (int what : new int[] {-1, 4, 5, Edges.MIN, Edges.MAX}) {
            Checks.due("walked what " + what, x.walked(0, 1, 0, what), -2);
        }
    }

    private static void walked(String call, QuarrelMiles x, int matter, int... due) {
        for (int what = 0; what <= 3; what++) {
            Checks.due("walked what " + what + " of " + call, x.walked(0, 1, matter, what), due[what]);
        }
    }

    static void promise19WalkedWithoutWays() {
        QuarrelMiles x = Checks.land(Checks.BASE);
        x.start(2);
        walked("no ways", x, 0, -1, -1, -1, 5);
        walked("no ways", x, 1, -1, -1, -1, 9);
    }

    static void promise19WalkedEndsOnTheRoute() {
        // One mile, two, two, one: a b c b a.
        for (int burns = 1; burns <= 7; burns++) {
            QuarrelMiles x = Checks.land("place a;place b;place c;way a to b 1;way b to c 2;" + Edges.lengths(burns));
            x.start(0);
            x.step(0);
            x.step(1);
            x.step(1);
            x.step(0);
            int[] ways = {0, 1, 1, 2, 2, 3, -1};
            int[] miles = {1, 1, 2, 1, 2, 1, -1};
            walked("burns " + burns, x, 0, burns < 7 ? burns : -1, ways[burns - 1], miles[burns - 1], burns < 7 ? 0 : 1);
        }
    }

    static void promise19WalkedHeatAtItsEnd() {
        // Without griefs heat is left where it ends.
        QuarrelMiles x = Checks.land("place a;place b;way a to b 5;" + Edges.TWO + "matter m burns 9 of 1 1;matter n burns 9 of 1 1 1 1 1 1;");
        x.start(1);
        x.step(0);
        walked("no griefs", x, 0, 2, 0, 2, 7);
        walked("no end", x, 1, -1, -1, -1, 4);
    }

    static void promise19WalkedTwelveWaysOf40() {
        for (int words : new int[] {1, 40, 41, 479, 480, 481}) {
            QuarrelMiles x = Checks.land("place a;place b;way a to b 40;" + Edges.TWO + "matter m burns 9 of 1;heat " + words
                + " - mile;back 1;");
            x.start(0);
            for (int i = 0; i < 12; i++) {
                x.step(0);
            }
            boolean isOn = words <= 480;
            walked(words + " words", x, 0, isOn ? words : -1, isOn ? (words - 1) / 40 : -1, isOn ? (words - 1) % 40 + 1 : -1, isOn ? 0 : 1);
        }
    }

    static void promise19WalkedIsByTempersAsTheyAreNow() {
        for (int what = 0; what <= 3; what++) {
            int asked = what;
            Edges.byTempersNow("walked what " + what, x -> {
                x.start(0);
                x.step(0);
                x.step(1);
                x.step(2);
                return x.walked(0, 1, 0, asked);
            });
        }
    }

    static void promise19WalkedDoesNothing() {
        Edges.onlyTells("walked", Edges::busy, x -> x.walked(0, 1, 0, 0) + x.walked(1, 0, 1, 3));
        Edges.onlyTells("quarrel, heat, loud", Edges::busy, x -> x.quarrel(0, 1, 1) + x.heat(0, 1, 1, 4) + x.loud(0, 1, 1, 0));
    }
}
