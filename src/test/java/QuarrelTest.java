/** Promises 8 to 19: quarrels in open country, in earnest, along routes. */
public final class QuarrelTest {
    private static final String BASE = Checks.BASE;

    public static void main(String[] args) {
        answers();
        known();
        open();
        sea();
        loud();
        walking();
        onTheWay();
        echoes();
        years();
        acts();
        manyActs();
        images();
        routes();
        Checks.close();
    }

    /** What comes of a formula, told by the heat behind the first word: 0 .. 99. */
    private static void answer(String formula, int due) {
        QuarrelMiles x = Checks.land("soul p stubborn 3 short 4;soul q stubborn 5 short 6;"
            + "matter m burns 50 of 7 8 9;heat " + formula + ";");
        Checks.due("heat behind " + formula, x.heat(0, 1, 0, 1), due);
    }

    private static void answers() {
        Checks.part("formulas");
        answer("1 + 2 * 3", 7);
        answer("10 - 3 - 2", 5);
        answer("2 * 3 + 4 * 5", 26);
        answer("60 / 2 / 3", 10);
        answer("7 / 2 * 2", 6);
        answer("17 % 10 % 4", 3);
        answer("(0 - 7) / 2 + 10", 7);
        answer("(0 - 7) % 4 + 10", 7);
        answer("7 / (0 - 2) + 10", 7);
        answer("7 % (0 - 4) + 10", 13);
        answer("5 / 0 + 1", 1);
        answer("5 % 0 + 2", 2);
        answer("(0 - 5) / (1 - 1) + 2", 2);
        answer("98 + 1", 99);
        answer("99 + 1", 99);
        answer("9999", 99);
        answer("3 - 5", 0);
        // Ints that wrap.
        answer("9999 * 9999 * 9999 % 50 + 50", 9999 * 9999 * 9999 % 50 + 50);
        answer("9999 * 9999 * 30 % 40 + 45", 9999 * 9999 * 30 % 40 + 45);
        answer("(0 - 8192 * 8192 * 32) / (0 - 1) < 0", 1);
        answer("(0 - 8192 * 8192 * 32) % (0 - 1) + 6", 6);
        answer("8192 * 8192 * 32 - 1 > 0", 1);
        answer("(3 < 4) + 10", 11);
        answer("(4 < 4) + 10", 10);
        answer("(5 > 4) + 10", 11);
        answer("(4 > 4) + 10", 10);
        answer("(4 = 4) + 10", 11);
        answer("(4 = 5) + 10", 10);
        answer("1 + 1 < 2 * 2", 1);
        answer("10 + (not 5)", 10);
        answer("10 + (not 0)", 11);
        answer("10 + (not (0 - 5))", 10);
        answer("not not 7", 1);
        answer("10 + (2 and 3)", 11);
        answer("10 + (2 and 0)", 10);
        answer("10 + (0 or 7)", 11);
        answer("10 + (0 or 0)", 10);
        answer("10 + (7 or 0)", 11);
        answer("10 + ((0 - 2) and (0 - 3))", 11);
        // and is tighter than or, not tighter than and, relations and sums tighter than not.
        answer("10 + (1 or 0 and 0)", 11);
        answer("10 + (0 and 0 or 1)", 11);
        answer("10 + (not 0 and 0)", 10);
        answer("10 + (not 1 or 1)", 11);
        answer("10 + (not 1 < 0)", 11);
        answer("10 + (not 1 - 1)", 11);
        answer("10 + (not 3 = 3)", 10);
        answer("10 + (1 < 2 and 2 > 1)", 11);
        answer("10 + (not not 3 = 3 and not 1 > 2 or 0)", 11);
        answer("(7)", 7);
        answer("((7) + (1)) * 2", 16);
        // All 30 units, and as much as can be waiting for what is behind it.
        String wait = "0 or 1 and 2 > 1 - 1 * ";
        answer((wait + "(").repeat(4) + wait + "1" + ")".repeat(4), 1);
        answer("1" + " + 1".repeat(29), 30);
        answer("not not not not not not not 0 and not not not not not not not 1", 0);
    }

    private static void known() {
        Checks.part("units");
        answer("heat", 50);
        answer("grief", 9);
        answer("stubborn", 3);
        answer("short", 4);
        answer("mile", 1);
        answer("left", 2);
        // The other one says the second word; heat and grief are as they were ahead of it.
        QuarrelMiles x = Checks.land("soul p stubborn 3 short 4;soul q stubborn 5 short 6;matter m burns 50 of 7 8 9;"
            + "heat 1 + stubborn * 10 + short;back (mile = 1) * 4;");
        Checks.due("heat 1", x.heat(0, 1, 0, 1), 35);
        Checks.due("heat 2", x.heat(0, 1, 0, 2), 57);
        Checks.due("heat 1 turned", x.heat(1, 0, 0, 1), 57);
        Checks.due("heat 2 turned", x.heat(1, 0, 0, 2), 35);
        // Griefs 9 (4 comes back), 4, 8, 7: four words.
        Checks.due("quarrel", x.quarrel(0, 1, 0), 4);
        x = Checks.land("soul p stubborn 3 short 4;soul q stubborn 5 short 6;matter m burns 50 of 7 8;"
            + "heat grief * 10 + left;back 1 + (heat = 50) * 100 - (mile > 1) * 99;");
        // Word 1 takes 8 (left 1), 101 comes back as 9; word 2 takes 9 (left 1); its heat was 81.
        Checks.due("heat 1", x.heat(0, 1, 0, 1), 81);
        Checks.due("heat 2", x.heat(0, 1, 0, 2), 91);
        // Word 2: 1 - 99 comes back, so nothing; word 3 takes 7.
        Checks.due("heat 3", x.heat(0, 1, 0, 3), 70);
        Checks.due("quarrel", x.quarrel(0, 1, 0), 3);
        x = Checks.land("soul p stubborn 0 short 0;soul q stubborn 0 short 0;matter m burns 50 of 1 1 1 1;heat mile * 10 + left;");
        for (int i = 1; i <= 4; i++) {
            Checks.due("heat " + i, x.heat(0, 1, 0, i), 10 * i + 4 - i);
        }
    }

    private static void open() {
        Checks.part("promises 8, 9");
        QuarrelMiles x = Checks.land(BASE);
        Checks.due("quarrel", x.quarrel(0, 1, 0), 5);
        int[] heats = {5, 4, 3, 2, 1, 0, 0, 0};
        for (int i = 0; i < heats.length; i++) {
            Checks.due("heat " + i, x.heat(0, 1, 0, i), heats[i]);
        }
        Checks.due("heat 200", x.heat(0, 1, 0, 200), 0);
        Checks.due("heat 201", x.heat(0, 1, 0, 201), -2);
        Checks.due("heat -1", x.heat(0, 1, 0, -1), -2);
        // 4 4, 3 2 1, 4 3 2 1 back: eight words, and the heat is left at 1.
        Checks.due("quarrel n", x.quarrel(0, 1, 1), 8);
        Checks.due("heat n", x.heat(0, 1, 1, 200), 1);
        int[][] bad = {{0, 0, 0}, {1, 1, 0}, {2, 0, 0}, {0, 2, 0}, {-1, 0, 0}, {0, -1, 0}, {0, 1, 2}, {0, 1, -1},
            {Integer.MAX_VALUE, 1, 0}, {0, Integer.MIN_VALUE, 0}, {0, 1, Integer.MAX_VALUE}};
        for (int[] b : bad) {
            Checks.due("quarrel", x.quarrel(b[0], b[1], b[2]), -2);
            Checks.due("heat", x.heat(b[0], b[1], b[2], 1), -2);
            Checks.due("loud", x.loud(b[0], b[1], b[2], 0), -2);
        }
        // Without formulas the heat is one less, and nothing comes back.
        x = Checks.land("soul p stubborn 9 short 9;soul q stubborn 9 short 9;matter m burns 2 of 1 1 1;matter n burns 9 of 1 1 1;");
        Checks.due("quarrel to heat 0", x.quarrel(0, 1, 0), 2);
        Checks.due("quarrel to no griefs", x.quarrel(0, 1, 1), 3);
        Checks.due("heat at no griefs", x.heat(0, 1, 1, 99), 6);
    }

    private static void sea() {
        Checks.part("the sea");
        String two = "soul p stubborn 1 short 1;soul q stubborn 1 short 1;matter m burns 9 of 1;";
        Checks.due("200 words", Checks.land(two + "heat 200 - mile;back 1;").quarrel(0, 1, 0), 200);
        Checks.due("199 words", Checks.land(two + "heat 199 - mile;back 1;").quarrel(0, 1, 0), 199);
        QuarrelMiles x = Checks.land(two + "heat 201 - mile;back 1;");
        Checks.due("201 words", x.quarrel(0, 1, 0), -1);
        Checks.due("heat behind 200 words", x.heat(0, 1, 0, 200), 1);
        Checks.due("heat behind 101 words", x.heat(0, 1, 0, 101), 99);
        Checks.due("heat behind 103 words", x.heat(0, 1, 0, 103), 98);
    }

    private static void loud() {
        Checks.part("promise 27");
        QuarrelMiles x = Checks.land(BASE);
        Checks.due("loud", x.loud(0, 1, 0, 0), 4);
        Checks.due("loud word", x.loud(0, 1, 0, 1), 1);
        Checks.due("loud 2", x.loud(0, 1, 0, 2), -2);
        Checks.due("loud -1", x.loud(0, 1, 0, -1), -2);
        String two = "soul p stubborn 1 short 1;soul q stubborn 1 short 1;matter m burns 1 of 1 1 1 1 1 1;";
        x = Checks.land(two + "heat mile % 4 + 1;");
        Checks.due("loud", x.loud(0, 1, 0, 0), 4);
        Checks.due("loud word, the first", x.loud(0, 1, 0, 1), 3);
        x = Checks.land(two + "heat 0;");
        Checks.due("loud of 0", x.loud(0, 1, 0, 0), 0);
        Checks.due("loud word of 0", x.loud(0, 1, 0, 1), 1);
        x = Checks.land(two + "heat 1 + (mile = 200) + (mile > 200) * 9;back 1;");
        Checks.due("loud at the 200th", x.loud(0, 1, 0, 0), 2);
        Checks.due("loud word at the 200th", x.loud(0, 1, 0, 1), 200);
    }

    /** Of who walk: place, way, miles, words, heat, griefs, ended. */
    private static void walk(String behind, QuarrelMiles x, int... due) {
        for (int i = 0; i < 7; i++) {
            Checks.due("walk(" + i + ") behind " + behind, x.walk(i), due[i]);
        }
        Checks.due("walk(7)", x.walk(7), -1);
        Checks.due("walk(-1)", x.walk(-1), -1);
    }

    private static void nobody(String behind, QuarrelMiles x) {
        for (int i = -1; i <= 7; i++) {
            Checks.due("walk(" + i + ") behind " + behind, x.walk(i), -1);
        }
    }

    private static void walking() {
        Checks.part("promises 10 to 12, 14");
        QuarrelMiles x = Checks.land(BASE);
        nobody("land", x);
        Checks.due("take without who walk", x.take(0), -1);
        Checks.due("words without who walk", x.words(1), -1);
        Checks.due("words(0) without who walk", x.words(0), -1);
        int[][] bad = {{0, 0, 0, 0}, {2, 0, 0, 0}, {0, -1, 0, 0}, {0, 1, 2, 0}, {0, 1, 0, 3}, {0, 1, 0, -1}};
        for (int[] b : bad) {
            Checks.due("setOut", x.setOut(b[0], b[1], b[2], b[3]), -1);
        }
        Checks.due("acts behind nothing", x.about(5), 0);
        nobody("nothing", x);
        Checks.due("setOut", x.setOut(0, 1, 0, 0), 1);
        walk("setOut", x, 0, -1, 0, 0, 5, 3, 0);
        Checks.due("words at a place", x.words(9), 0);
        Checks.due("acts", x.about(5), 2);
        Checks.due("take a way from elsewhere", x.take(1), -1);
        Checks.due("take none such", x.take(3), -1);
        Checks.due("take -1", x.take(-1), -1);
        Checks.due("take", x.take(0), 3);
        walk("take", x, 0, 0, 0, 0, 5, 3, 0);
        Checks.due("take on a way", x.take(2), -1);
        Checks.due("take the same way", x.take(0), -1);
        Checks.due("words(-1)", x.words(-1), -1);
        Checks.due("words(61)", x.words(61), -1);
        Checks.due("acts", x.about(5), 3);
        Checks.due("words(0)", x.words(0), 0);
        Checks.due("acts", x.about(5), 4);
        Checks.due("words(2)", x.words(2), 2);
        walk("words(2)", x, 0, 0, 2, 2, 3, 3, 0);
        // The calm of b makes an end of it: heat 2 less 2.
        Checks.due("words(60)", x.words(60), 1);
        walk("words(60)", x, 1, -1, 0, 3, 0, 2, 1);
        Checks.due("words behind the end", x.words(60), 0);
        Checks.due("take behind the end", x.take(1), -1);
        Checks.due("setOut anew", x.setOut(1, 0, 1, 2), 1);
        walk("setOut anew", x, 2, -1, 0, 0, 9, 2, 0);
    }

    private static void onTheWay() {
        Checks.part("ends on a way, ways back");
        QuarrelMiles x = Checks.land(BASE);
        x.setOut(0, 1, 0, 2);
        Checks.due("take back", x.take(2), 6);
        Checks.due("words", x.words(60), 5);
        walk("an end on the way", x, 2, 2, 5, 5, 0, 1, 1);
        Checks.due("words behind it", x.words(3), 0);
        Checks.due("take behind it", x.take(2), -1);
        x.setOut(0, 1, 1, 2);
        Checks.due("take back", x.take(1), 2);
        // Sight 1 keeps the heat at 9; b takes 2 of it.
        Checks.due("words", x.words(60), 2);
        walk("a way back", x, 1, -1, 0, 2, 7, 2, 0);
        Checks.due("take on", x.take(1), 2);
        Checks.due("words", x.words(2), 2);
        // To c: 4 4 has become 4 2, then 4 1 and 4; the echo comes on top of it.
        walk("an echo", x, 2, -1, 0, 4, 7, 2, 0);
        // Sights lead to 0 and to 99 at most.
        x = Checks.land("place a;place b;way a to b 2 sight -9;way b to a 3 sight 9;soul p stubborn 1 short 1;"
            + "soul q stubborn 1 short 1;matter m burns 8 of 1 1 1;matter n burns 95 of 1 1 1 1 1 1 1;");
        x.setOut(0, 1, 0, 0);
        x.take(0);
        Checks.due("words", x.words(2), 1);
        walk("sight to 0", x, 0, 0, 1, 1, 0, 2, 1);
        x.setOut(0, 1, 1, 0);
        x.take(1);
        Checks.due("words", x.words(1), 1);
        walk("sight to 99", x, 0, 1, 1, 1, 99, 6, 0);
        Checks.due("words", x.words(1), 1);
        Checks.due("heat", x.walk(4), 99);
    }

    private static void echoes() {
        Checks.part("echoes");
        // The last grief is said at the end of the way, and the echo is another one: no end.
        QuarrelMiles x = Checks.land("place a echo 5;place b;way a to b 2;soul p stubborn 1 short 1;"
            + "soul q stubborn 1 short 1;matter m burns 50 of 1 1;matter n burns 2 of 1 1 1;");
        x.setOut(0, 1, 0, 1);
        x.take(0);
        Checks.due("words", x.words(9), 2);
        walk("an echo that goes on", x, 0, -1, 0, 2, 48, 1, 0);
        x.take(0);
        Checks.due("words", x.words(9), 1);
        walk("its end", x, 0, 0, 1, 3, 47, 0, 1);
        // No heat is an end in spite of an echo.
        x.setOut(0, 1, 1, 1);
        x.take(0);
        x.words(9);
        walk("no heat", x, 0, -1, 0, 2, 0, 2, 1);
        // Each mile ends a way: what is said comes back, an echo comes on top, to 20 griefs.
        x = Checks.land("place a echo 7;place b echo 3;way a to b 1;soul p stubborn 1 short 1;soul q stubborn 1 short 1;"
            + "matter m burns 50 of 1 1 1 1 1 1 1 1;heat 10 + grief;back 2;");
        x.setOut(0, 1, 0, 0);
        for (int i = 1; i <= 15; i++) {
            x.take(0);
            Checks.due("words", x.words(2), 1);
            Checks.due("griefs behind " + i, x.walk(5), Math.min(20, 8 + i));
        }
        // With 20 there is no echo: 2 lies on top, not 3 or 7.
        x.take(0);
        x.words(1);
        Checks.due("heat", x.walk(4), 12);
        // The 12th way's word takes the echo of b, where the 11th ended.
        x.start(0);
        for (int i = 0; i < 12; i++) {
            x.step(0);
        }
        Checks.due("walked", x.walked(0, 1, 0, 3), 13);
    }

    private static void years() {
        Checks.part("promise 13");
        QuarrelMiles x = Checks.land("place a;");
        Checks.due("year without souls", x.year(), -1);
        Checks.due("acts", x.about(5), 0);
        x = Checks.land("soul p stubborn 1 short 2;soul q stubborn 3 short 4;soul r stubborn 5 short 6;draw 1;");
        // 208: soul 1, a tenth 20; 567: soul 0, 56; 750: soul 0, 75; 821: soul 2, 82; 548: soul 2, 54.
        int[] seeds = {208, 567, 750, 821, 548};
        int[] souls = {1, 0, 0, 2, 2};
        int[] tempers = {1, 2, 3, 4, 5, 6};
        for (int i = 0; i < seeds.length; i++) {
            Checks.due("year", x.year(), souls[i]);
            Checks.due("seed", x.about(4), seeds[i]);
            tempers[2 * souls[i] + seeds[i] / 10 % 2]++;
            for (int k = 0; k < 6; k++) {
                Checks.due("temper " + k, x.soul(k / 2, k % 2), tempers[k]);
            }
        }
        x = Checks.land("soul p stubborn 9 short 9;");
        for (int i = 0; i < 30; i++) {
            Checks.due("year", x.year(), 0);
            Checks.due("stubborn", x.soul(0, 0), 9);
            Checks.due("short", x.soul(0, 1), 9);
        }
        Checks.due("acts", x.about(5), 30);
        // Tempers as they are now: who is on the way speaks by them, too.
        x = Checks.land("place a;place b;way a to b 9;soul p stubborn 1 short 1;soul q stubborn 2 short 2;"
            + "matter m burns 9 of 1 1 1 1;heat 10 * stubborn + short;draw 1;");
        x.setOut(1, 0, 0, 0);
        x.take(0);
        x.words(1);
        Checks.due("heat", x.walk(4), 22);
        // 208: soul 0, more stubborn.
        Checks.due("year", x.year(), 0);
        x.words(1);
        Checks.due("heat behind the year", x.walk(4), 21);
        Checks.due("heat in open country", x.heat(0, 1, 0, 1), 21);
        x.undo();
        x.undo();
        Checks.due("heat in open country", x.heat(0, 1, 0, 1), 11);
    }

    private static void acts() {
        Checks.part("promises 15, 16");
        QuarrelMiles x = Checks.land(BASE + "draw 1;");
        Checks.due("undo", x.undo(), false);
        Checks.due("redo", x.redo(), false);
        x.setOut(0, 1, 0, 0);
        x.take(0);
        x.words(1);
        // 208: soul 0, a tenth 20 is even.
        x.year();
        Checks.due("acts", x.about(5), 4);
        Checks.due("undo", x.undo(), true);
        Checks.due("seed", x.about(4), 1);
        Checks.due("stubborn", x.soul(0, 0), 2);
        Checks.due("undone", x.about(5), 3);
        Checks.due("redone", x.about(6), 1);
        Checks.due("undo", x.undo(), true);
        walk("undo of words", x, 0, 0, 0, 0, 5, 3, 0);
        Checks.due("undo", x.undo(), true);
        walk("undo of take", x, 0, -1, 0, 0, 5, 3, 0);
        Checks.due("undo", x.undo(), true);
        nobody("undo of setOut", x);
        Checks.due("undo", x.undo(), false);
        Checks.due("redone", x.about(6), 4);
        for (int i = 0; i < 4; i++) {
            Checks.due("redo", x.redo(), true);
        }
        Checks.due("redo", x.redo(), false);
        walk("redo", x, 0, 0, 1, 1, 4, 3, 0);
        Checks.due("seed", x.about(4), 208);
        Checks.due("stubborn", x.soul(0, 0), 3);
        x.undo();
        x.undo();
        // What can't be is no act: what was taken back can be done again.
        Checks.due("take", x.take(1), -1);
        Checks.due("words", x.words(61), -1);
        Checks.due("setOut", x.setOut(0, 0, 0, 0), -1);
        Checks.due("redone", x.about(6), 2);
        Checks.due("words", x.words(0), 0);
        Checks.due("redone behind an act", x.about(6), 0);
        Checks.due("redo", x.redo(), false);
        // A route and what lies there are no acts.
        x.undo();
        x.start(1);
        x.shortest(0, 1);
        x.image(0);
        x.report(0, 1, 0, 0);
        x.later(1);
        Checks.due("redone", x.about(6), 1);
        x.undo();
        Checks.due("route", x.about(8), 1);
    }

    private static void manyActs() {
        Checks.part("40 acts");
        QuarrelMiles x = Checks.land("soul p stubborn 0 short 0;soul q stubborn 0 short 0;draw 3;");
        int[] seeds = new int[100];
        for (int i = 0; i < 100; i++) {
            seeds[i] = x.about(4);
            Checks.due("acts", x.about(5), Math.min(40, i));
            x.year();
        }
        for (int i = 0; i < 40; i++) {
            Checks.due("undo " + i, x.undo(), true);
            Checks.due("seed " + i, x.about(4), seeds[99 - i]);
            Checks.due("undone and redone", x.about(5) + x.about(6), 40);
        }
        Checks.due("undo 41", x.undo(), false);
        Checks.due("seed", x.about(4), seeds[60]);
        for (int i = 0; i < 15; i++) {
            Checks.due("redo", x.redo(), true);
        }
        Checks.due("seed", x.about(4), seeds[75]);
        x.year();
        Checks.due("acts", x.about(5), 16);
        Checks.due("redone", x.about(6), 0);
        Checks.due("seed", x.about(4), seeds[76]);
    }

    private static void images() {
        Checks.part("promises 36, 37");
        QuarrelMiles x = Checks.land(BASE + "draw 1;");
        Checks.due("image(-1)", x.image(-1), -1);
        Checks.due("image(3)", x.image(3), -1);
        for (int i = -1; i <= 3; i++) {
            Checks.due("back(" + i + ")", x.back(i), -1);
        }
        Checks.due("image(2)", x.image(2), 0);
        x.setOut(0, 1, 0, 2);
        x.take(2);
        x.words(3);
        Checks.due("image(0)", x.image(0), 3);
        x.year();
        x.words(1);
        Checks.due("image(1)", x.image(1), 4);
        Checks.due("acts", x.about(5), 5);
        Checks.due("back(0)", x.back(0), 3);
        walk("back(0)", x, 2, 2, 3, 3, 2, 2, 0);
        Checks.due("seed", x.about(4), 1);
        Checks.due("stubborn", x.soul(0, 0), 2);
        Checks.due("acts", x.about(5), 0);
        Checks.due("undo", x.undo(), false);
        x.words(9);
        walk("words", x, 2, 2, 5, 5, 0, 1, 1);
        x.undo();
        Checks.due("redone", x.about(6), 1);
        Checks.due("back(1)", x.back(1), 4);
        Checks.due("redone", x.about(6), 0);
        Checks.due("redo", x.redo(), false);
        walk("back(1)", x, 2, 2, 4, 4, 1, 2, 0);
        Checks.due("seed", x.about(4), 208);
        Checks.due("stubborn", x.soul(0, 0), 3);
        Checks.due("back(2)", x.back(2), 0);
        nobody("back(2)", x);
        Checks.due("back(0) again", x.back(0), 3);
        x.words(1);
        // A box is kept over, and undo does not touch it.
        Checks.due("image(0) over", x.image(0), 4);
        x.undo();
        Checks.due("words", x.walk(3), 3);
        Checks.due("back(0)", x.back(0), 4);
        Checks.due("words", x.walk(3), 4);
        Checks.due("back(3)", x.back(3), -1);
        Checks.due("words behind nothing", x.walk(3), 4);
    }

    private static void routes() {
        Checks.part("promises 17 to 19");
        QuarrelMiles x = Checks.land(BASE);
        Checks.due("step without a route", x.step(0), -1);
        Checks.due("walked without a route", x.walked(0, 1, 0, 0), -2);
        Checks.due("start(3)", x.start(3), -1);
        Checks.due("start(-1)", x.start(-1), -1);
        Checks.due("route", x.about(7), -1);
        Checks.due("start(0)", x.start(0), 1);
        Checks.due("route", x.about(7), 0);
        Checks.due("its end", x.about(8), 0);
        for (int what = 0; what <= 2; what++) {
            Checks.due("walked on no way", x.walked(0, 1, 0, what), -1);
        }
        Checks.due("heat on no way", x.walked(0, 1, 0, 3), 5);
        Checks.due("step(1)", x.step(1), -1);
        Checks.due("step(3)", x.step(3), -1);
        Checks.due("step(-1)", x.step(-1), -1);
        Checks.due("step(2)", x.step(2), 1);
        Checks.due("its end", x.about(8), 2);
        // Way 2: 4 3 2 1 0.
        Checks.due("walked 0", x.walked(0, 1, 0, 0), 5);
        Checks.due("walked 1", x.walked(0, 1, 0, 1), 0);
        Checks.due("walked 2", x.walked(0, 1, 0, 2), 5);
        Checks.due("walked 3", x.walked(0, 1, 0, 3), 0);
        Checks.due("walked 4", x.walked(0, 1, 0, 4), -2);
        Checks.due("walked -1", x.walked(0, 1, 0, -1), -2);
        Checks.due("walked by one", x.walked(0, 0, 0, 0), -2);
        Checks.due("walked by 2", x.walked(0, 2, 0, 0), -2);
        Checks.due("walked 2", x.walked(0, 1, 2, 3), -2);
        // n: behind 6 miles of 4 4 is left 2 (of 4 3 2 1, 4 3) with the echo 3 on it, heat 3; two more miles with sight 1
        Checks.due("n over 6 miles", x.walked(0, 1, 1, 3), 3);
        Checks.due("step back", x.step(1), 2);
        Checks.due("its end", x.about(8), 1);
        // 2 (of the 4), 3: miles 7, 8 take 3, 2: heat 3 - 1 + 1 = 3, then 3 and calm 2: 1; there are griefs.
        Checks.due("n over 8 miles", x.walked(0, 1, 1, 3), 1);
        Checks.due("n has no end there", x.walked(0, 1, 1, 0), -1);
        Checks.due("step", x.step(0), 3);
        Checks.due("n ends", x.walked(0, 1, 1, 0), 9);
        Checks.due("in", x.walked(0, 1, 1, 1), 2);
        Checks.due("behind", x.walked(0, 1, 1, 2), 1);
        Checks.due("heat", x.walked(0, 1, 1, 3), 0);
        // A new start forgets the ways; 12 of them at most.
        Checks.due("start(1)", x.start(1), 1);
        Checks.due("route", x.about(7), 0);
        Checks.due("start(9)", x.start(9), -1);
        for (int i = 1; i <= 12; i++) {
            Checks.due("step " + i, x.step(1), i);
        }
        Checks.due("step 13", x.step(1), -1);
        Checks.due("route", x.about(7), 12);
        Checks.due("its end", x.about(8), 1);
        // At the end of a way, by calm: mile 3 of way 0.
        x.start(0);
        x.step(0);
        x.step(1);
        Checks.due("by calm", x.walked(0, 1, 0, 0), 3);
        Checks.due("in", x.walked(0, 1, 0, 1), 0);
        Checks.due("behind", x.walked(0, 1, 0, 2), 3);
        // More than 200 words, far from the sea.
        x = Checks.land("place a;place b;way a to b 40;soul p stubborn 1 short 1;soul q stubborn 1 short 1;"
            + "matter m burns 9 of 1;heat 411 - mile;back 1;");
        x.start(0);
        for (int i = 0; i < 12; i++) {
            x.step(0);
        }
        Checks.due("walked 0", x.walked(0, 1, 0, 0), 411);
        Checks.due("walked 1", x.walked(0, 1, 0, 1), 10);
        Checks.due("walked 2", x.walked(0, 1, 0, 2), 11);
    }
}
