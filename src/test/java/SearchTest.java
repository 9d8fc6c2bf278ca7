/** Promises 20 to 30: what is looked for, and what lies there then. */
public final class SearchTest {
    private static final String BASE = Checks.BASE;
    private static final String SOULS = "soul p stubborn 1 short 1;soul q stubborn 1 short 1;";

    public static void main(String[] args) {
        shortest();
        send();
        measure();
        adds();
        fair();
        cover();
        coverAgain();
        turned();
        home();
        homeRound();
        temper();
        bounds();
        lies();
        Checks.close();
    }

    private static void shortest() {
        Checks.part("promise 20");
        QuarrelMiles x = Checks.land(BASE);
        Checks.due("shortest", x.shortest(0, 2), 5);
        Checks.lying("shortest", x, 0, 1);
        Checks.due("shortest back", x.shortest(2, 0), 5);
        Checks.lying("shortest back", x, 1, 0);
        Checks.due("shortest to itself", x.shortest(1, 1), 0);
        Checks.lying("shortest to itself", x);
        int[][] bad = {{0, 3}, {3, 0}, {-1, 0}, {0, -1}, {Integer.MAX_VALUE, 0}, {0, Integer.MIN_VALUE}, {3, 3}};
        for (int[] b : bad) {
            x.shortest(0, 1);
            Checks.due("shortest", x.shortest(b[0], b[1]), -1);
            Checks.lying("no shortest", x);
        }
        // Like ones: 0 to 3 by 0 5, by 1 4, by 2 alone and by 3 alone, each 4 miles; the first is 0 5.
        x = Checks.land("place a;place b;place c;place d;place e;way a to b 1;way a to c 2;way a to d 4;way d to a 4;"
            + "way c to d 2;way d to b 3;way e to a 40;way e to a 40;");
        Checks.due("shortest", x.shortest(0, 3), 4);
        Checks.lying("shortest", x, 0, 5);
        Checks.due("shortest back", x.shortest(3, 0), 4);
        Checks.lying("shortest back", x, 2);
        Checks.due("shortest to e", x.shortest(3, 4), 44);
        Checks.lying("shortest to e", x, 2, 6);
        // Fewer miles win over fewer ways.
        x = Checks.land("place a;place b;place c;place d;place e;place f;place g;place h;way a to h 8;way a to b 1;"
            + "way c to b 1;way c to d 1;way e to d 1;way e to f 1;way g to f 1;way g to h 1;");
        Checks.due("seven ways", x.shortest(0, 7), 7);
        Checks.lying("seven ways", x, 1, 2, 3, 4, 5, 6, 7);
        Checks.due("seven ways back", x.shortest(7, 0), 7);
        Checks.lying("seven ways back", x, 7, 6, 5, 4, 3, 2, 1);
        x = Checks.land("place a;place b;place c;way a to b 1;");
        Checks.due("no way there", x.shortest(0, 2), -1);
        Checks.due("no way from there", x.shortest(2, 1), -1);
        Checks.due("itself", x.shortest(2, 2), 0);
    }

    private static void send() {
        Checks.part("promise 21");
        QuarrelMiles x = Checks.land(BASE);
        Checks.due("send", x.send(0, 1), 2);
        Checks.lying("send", x, 0, 1, 0);
        Checks.due("send(0, 2)", x.send(0, 2), 0);
        Checks.lying("send(0, 2)", x);
        x.send(0, 1);
        Checks.due("send(0, 0)", x.send(0, 0), 0);
        Checks.lying("send(0, 0)", x);
        int[][] bad = {{0, 3}, {3, 0}, {-1, 0}, {0, -1}};
        for (int[] b : bad) {
            x.send(0, 1);
            Checks.due("send", x.send(b[0], b[1]), -1);
            Checks.lying("no send", x);
        }
        // Only r leaves nothing behind: by m it ends behind two words if r says the second one.
        x = Checks.land("place a;place b;way b to a 2;place c;soul p stubborn 4 short 0;soul q stubborn 5 short 0;"
            + "soul r stubborn 9 short 0;matter m burns 9 of 1;matter n burns 9 of 1 1;heat stubborn;back stubborn < 9;");
        Checks.due("send", x.send(0, 1), 2);
        Checks.lying("send", x, 0, 2, 0);
        // Nothing ever comes back: the two griefs of n are two words by any couple.
        x = Checks.land("place a;place b;way b to a 2;place c;soul p stubborn 4 short 0;soul q stubborn 5 short 0;"
            + "soul r stubborn 9 short 0;matter m burns 9 of 1;matter n burns 9 of 1 1;heat stubborn;back stubborn < 4;");
        Checks.due("send", x.send(0, 1), 6);
        Checks.lying("send", x, 0, 1, 1);
        Checks.due("send there", x.send(1, 0), 6);
        Checks.due("send without a way", x.send(0, 2), -1);
        Checks.lying("send without a way", x);
        // r alone is an end, as the second one; the first to be sent with it is p by m.
        x = Checks.land("place a;place b;way b to a 2;soul p stubborn 4 short 0;soul q stubborn 5 short 0;"
            + "soul r stubborn 0 short 0;matter m burns 9 of 1 1 1 1;heat stubborn;");
        Checks.due("send", x.send(0, 1), 2);
        Checks.lying("send", x, 0, 2, 0);
        // As tempers are now: 208, soul 1 is more stubborn; 567, soul 0; 750, 0; 821, 2.
        x = Checks.land("place a;place b;way b to a 1;soul p stubborn 0 short 0;soul q stubborn 0 short 0;"
            + "soul r stubborn 0 short 0;matter m burns 9 of 1 1 1 1;heat stubborn;draw 1;");
        Checks.due("send", x.send(0, 1), 6);
        x.year();
        Checks.due("send a year later", x.send(0, 1), 4);
        Checks.lying("send a year later", x, 0, 1, 0);
        x.year();
        Checks.due("send two years later", x.send(0, 1), 2);
        Checks.lying("send two years later", x, 2, 0, 0);
        x = Checks.land("place a;place b;way a to b 1;" + SOULS);
        Checks.due("send without matters", x.send(0, 1), 0);
    }

    private static void measure() {
        Checks.part("promise 22");
        QuarrelMiles x = Checks.land(BASE + "way a to b 40;way a to b 1;way a to b 10;way a to b 11;way a to b 15;way a to b 16;");
        Checks.due("3 miles", x.measure(0, 1, 0, 0, false), 1);
        Checks.due("3 miles back", x.measure(0, 1, 0, 0, true), 1);
        Checks.due("6 miles", x.measure(0, 1, 0, 2, false), 2);
        Checks.due("6 miles back", x.measure(0, 1, 0, 2, true), 2);
        Checks.due("40 miles", x.measure(0, 1, 0, 3, false), 8);
        Checks.due("1 mile", x.measure(0, 1, 0, 4, false), 1);
        Checks.due("10 miles", x.measure(0, 1, 0, 5, false), 2);
        Checks.due("11 miles", x.measure(0, 1, 0, 6, false), 3);
        Checks.due("15 miles", x.measure(0, 1, 0, 7, false), 3);
        Checks.due("16 miles", x.measure(0, 1, 0, 8, true), 4);
        // Eight words by the other matter: 40 miles are five quarrels.
        Checks.due("40 miles by n", x.measure(1, 0, 1, 3, true), 5);
        int[][] bad = {{0, 0, 0, 0}, {2, 0, 0, 0}, {0, -1, 0, 0}, {0, 1, 2, 0}, {0, 1, 0, 9}, {0, 1, 0, -1}};
        for (int[] b : bad) {
            Checks.due("measure", x.measure(b[0], b[1], b[2], b[3], false), -1);
            Checks.due("measure back", x.measure(b[0], b[1], b[2], b[3], true), -1);
        }
        Checks.due("acts", x.about(5), 0);
        // Sights make it shorter: heat 9, less 1 and 2 a word, is three words.
        x = Checks.land("place a calm 9;place b;way a to b 9 sight -2;way a to b 10 sight -2;" + SOULS
            + "matter m burns 9 of 1 1 1 1 1 1 1 1;");
        Checks.due("9 miles", x.measure(0, 1, 0, 0, false), 3);
        Checks.due("10 miles", x.measure(0, 1, 0, 1, false), 4);
        Checks.due("10 miles to the calm", x.measure(0, 1, 0, 1, true), 4);
        // The first one says the first word of each: p ends at once, q goes on.
        x = Checks.land("place a;place b;way a to b 10;soul p stubborn 0 short 0;soul q stubborn 5 short 0;"
            + "matter m burns 9 of 1 1 1;heat stubborn;");
        Checks.due("p first", x.measure(0, 1, 0, 0, false), 10);
        Checks.due("q first", x.measure(1, 0, 0, 0, false), 5);
    }

    private static void adds() {
        Checks.part("promise 23");
        QuarrelMiles x = Checks.land(BASE);
        Checks.due("adds", x.adds(0, 1), 2);
        Checks.due("adds from elsewhere", x.adds(1, 0), -1);
        Checks.due("adds to itself", x.adds(0, 0), -1);
        Checks.due("adds", x.adds(0, 2), -1);
        int[][] bad = {{0, 3}, {3, 0}, {-1, 1}, {0, -1}, {Integer.MAX_VALUE, 0}};
        for (int[] b : bad) {
            Checks.due("adds", x.adds(b[0], b[1]), -1);
        }
        // Five words each by m: 3 and 4 miles are one each, 7 in one are two; 5 and 5 are one each and two in one.
        // Seven words each by n: 3 and 4 miles in one are one.
        String souls = SOULS + "matter m burns 5 of 1 1 1 1 1 1 1;matter n burns 7 of 1 1 1 1 1 1 1 1;";
        x = Checks.land("place a;place b;place c;way a to b 3;way b to c 4;way a to b 5;way b to c 5;way b to a 2;" + souls);
        Checks.due("3 and 4", x.adds(0, 1), 2);
        Checks.due("5 and 5", x.adds(2, 3), 4);
        // There and back over the same place: 3 and 2 are 5: one by m, one by n.
        Checks.due("3 and 2", x.adds(0, 4), 0);
        Checks.due("a way back does not begin there", x.adds(4, 4), -1);
        // By m 5 and 4: 1 + 1 and 2; by n 5 and 4: 1 + 1 and 2.
        Checks.due("5 and 4", x.adds(2, 1), 4);
        // The calm of b ends the first one there: m has 2 of heat behind 3 miles, n 4.
        x = Checks.land("place a;place b calm 2;place c;way a to b 3;way b to c 2;" + souls);
        Checks.due("with calm", x.adds(0, 1), 2);
        x = Checks.land("place a;place b calm 4;place c;way a to b 3;way b to c 2;" + souls);
        Checks.due("with more calm", x.adds(0, 1), 4);
        x = Checks.land("place a;place b calm 1;place c;way a to b 3;way b to c 2;" + souls);
        Checks.due("with less calm", x.adds(0, 1), 2);
        x = Checks.land("place a;place b;place c;way a to b 3;way b to c 2;");
        Checks.due("without couples", x.adds(0, 1), 0);
    }

    private static void fair() {
        Checks.part("promise 24");
        Checks.due("fair of nothing", new QuarrelMiles().fair(), 0);
        Checks.due("fair", Checks.land(BASE).fair(), 4);
        QuarrelMiles x = Checks.land("place a calm 9 echo 9;place b;way a to b 40 sight -1;way b to a 7 sight 1;" + SOULS
            + "soul r stubborn 1 short 1;matter m burns 5 of 1 2 3;matter n burns 50 of 1;back grief - 1;");
        Checks.due("fair", x.fair(), 12);
        Checks.due("fair without ways", Checks.land(SOULS + "matter m burns 1 of 1;").fair(), 2);
        Checks.due("fair without matters", Checks.land("place a;place b;way a to b 3;" + SOULS).fair(), 0);
        x = Checks.land(BASE);
        x.shortest(0, 2);
        x.fair();
        x.adds(0, 1);
        x.measure(0, 1, 0, 0, false);
        x.turned();
        x.walked(0, 1, 0, 0);
        x.quarrel(0, 1, 0);
        Checks.lying("what lays nothing", x, 0, 1);
    }

    private static void cover() {
        Checks.part("promise 25");
        QuarrelMiles x = Checks.land(BASE);
        x.shortest(0, 2);
        Checks.due("cover", x.cover(), -1);
        Checks.lying("no cover", x);
        x = Checks.land("place a;place b;" + SOULS + "matter m burns 1 of 1;");
        Checks.due("cover without ways", x.cover(), 0);
        Checks.lying("cover without ways", x);
        Checks.due("cover without couples", Checks.land("place a;place b;way a to b 1;").cover(), -1);
        // Heats 1 to 6 are as many words.
        StringBuilder matters = new StringBuilder();
        for (int i = 1; i <= 6; i++) {
            matters.append("matter m").append((char) ('a' + i)).append(" burns ").append(7 - i).append(" of 1 1 1 1 1 1 1;");
        }
        x = Checks.land("place a;place b;way a to b 3;way b to a 3;" + SOULS + matters);
        Checks.due("cover by one", x.cover(), 1);
        Checks.lying("cover by one", x, 13);
        x = Checks.land("place a;place b;way a to b 3;way b to a 1;" + SOULS + matters);
        Checks.due("cover by two", x.cover(), 2);
        Checks.lying("cover by two", x, 13, 15);
        x = Checks.land("place a;place b;way a to b 3;way b to a 1;way b to a 6;way b to a 6;" + SOULS + matters);
        Checks.due("cover by three", x.cover(), 3);
        Checks.lying("cover by three", x, 10, 13, 15);
        x = Checks.land("place a;place b;way a to b 3;way b to a 1;way b to a 6;way b to a 5;" + SOULS + matters);
        Checks.due("cover by four", x.cover(), -1);
        Checks.lying("cover by four", x);
        // Only the way there counts: b is calm, so 3 miles to it end with heat 4 and 5, too.
        x = Checks.land("place a;place b calm 2;way a to b 3;way b to a 5;" + SOULS + matters);
        Checks.due("cover by calm", x.cover(), 1);
        Checks.lying("cover by calm", x, 11);
        x = Checks.land("place a;place b calm 2;way b to a 3;way b to a 5;" + SOULS + matters);
        Checks.due("cover away from calm", x.cover(), 2);
        Checks.lying("cover away from calm", x, 11, 13);
    }

    private static void coverAgain() {
        Checks.part("promise 25 again");
        String people = "soul p stubborn 0 short 0;soul q stubborn 1 short 1;matter m burns 9 of 1 1 1 1 1;draw 1;";
        QuarrelMiles x = Checks.land("place a;place b;way a to b 1;way b to a 2;heat stubborn;" + people);
        // p ends at its first word, so it is one mile with p first and two with q first.
        Checks.due("cover", x.cover(), 2);
        Checks.lying("cover", x, 10, 100);
        // 208 is a year of p, who is more stubborn then: nobody ends any more.
        Checks.due("year", x.year(), 0);
        Checks.due("cover a year later", x.cover(), -1);
        Checks.lying("cover a year later", x);
        x.undo();
        Checks.due("cover as ahead of it", x.cover(), 2);
        Checks.lying("cover as ahead of it", x, 10, 100);
        Checks.put(x, "place a;place b;way a to b 1;" + people);
        x.land();
        Checks.due("cover in another land", x.cover(), -1);
    }

    /** A triangle, its ways 1, 2 and 3 miles long. */
    private static void homeRound() {
        Checks.part("promise 28, a triangle");
        QuarrelMiles x = Checks.land("place a;place b;place c;place d;way a to b 1;way b to c 2;way c to a 3;" + SOULS
            + "matter m burns 6 of 1 1 1 1 1 1 1;matter n burns 4 of 1 1 1 1 1 1 1;");
        // Six miles from a to a: 0 1 2, 2 1 0, 2 2, 0 1 1 0; the first of the fewest ways is 2 2.
        Checks.due("round", x.home(0, 1, 0, 0, 0, 4), 4);
        Checks.lying("round", x, 2, 2);
        Checks.due("round by three", x.home(0, 1, 0, 0, 0, 3), 3);
        Checks.due("round by one", x.home(0, 1, 0, 0, 0, 1), 0);
        // Four miles from a: 0 0 0 0 to a, and no others (way 2 leads to c, and from there none is one mile).
        Checks.due("to a", x.home(0, 1, 1, 0, 0, 4), 1);
        Checks.lying("to a", x, 0, 0, 0, 0);
        Checks.due("to b", x.home(0, 1, 1, 0, 1, 4), 0);
        Checks.lying("to b", x);
        // Four miles from b: 1 1 to b, 0 2 to c, 0 0 1 to c, 0 0 0 0 to b.
        Checks.due("b to b", x.home(0, 1, 1, 1, 1, 4), 2);
        Checks.lying("b to b", x, 1, 1);
        Checks.due("b to c", x.home(0, 1, 1, 1, 2, 4), 2);
        Checks.lying("b to c", x, 0, 2);
        Checks.due("b to a", x.home(0, 1, 1, 1, 0, 4), 0);
        Checks.due("to where no way leads", x.home(0, 1, 0, 0, 3, 4), 0);
        Checks.due("from where no way leads", x.home(0, 1, 0, 3, 0, 4), 0);
    }

    private static void turned() {
        Checks.part("promise 26");
        Checks.due("turned of nothing", new QuarrelMiles().turned(), 0);
        Checks.due("turned", Checks.land(BASE).turned(), 2);
        // p ends at its first word, q and r do not: with q or r first it is one longer; q and r are alike.
        QuarrelMiles x = Checks.land("soul p stubborn 0 short 0;soul q stubborn 5 short 0;soul r stubborn 7 short 0;"
            + "matter m burns 9 of 1 1 1;matter n burns 9 of 1;heat stubborn;");
        Checks.due("turned", x.turned(), 1 + 3);
        // Two that never end are as long.
        x = Checks.land(SOULS + "matter m burns 9 of 1;heat heat;back 1;");
        Checks.due("turned without an end", x.turned(), 1);
        x = Checks.land("soul p stubborn 0 short 0;soul q stubborn 5 short 0;matter m burns 9 of 1;"
            + "heat heat - (mile = 1) * stubborn * 9;back 1;");
        Checks.due("turned with one end", x.turned(), 0);
    }

    private static void home() {
        Checks.part("promise 28");
        QuarrelMiles x = Checks.land(BASE);
        Checks.due("home", x.home(0, 1, 0, 0, 1, 1), 1);
        Checks.lying("home", x, 0);
        Checks.due("home(4)", x.home(0, 1, 0, 1, 0, 4), 1);
        Checks.lying("home(4)", x, 1, 1, 0);
        Checks.due("home(2)", x.home(0, 1, 0, 1, 0, 2), 0);
        Checks.lying("home(2)", x);
        int[][] bad = {{0, 1, 0, 0, 1, 0}, {0, 1, 0, 0, 1, 5}, {0, 1, 0, 0, 1, -1}, {0, 0, 0, 0, 1, 1}, {0, 1, 2, 0, 1, 1},
            {2, 1, 0, 0, 1, 1}, {0, -1, 0, 0, 1, 1}, {0, 1, 0, 3, 1, 1}, {0, 1, 0, -1, 1, 1}, {0, 1, 0, 0, 3, 1},
            {0, 1, 0, 0, -1, 1}, {0, 1, 0, 0, 1, Integer.MAX_VALUE}};
        for (int[] b : bad) {
            x.home(0, 1, 0, 0, 1, 1);
            Checks.due("home", x.home(b[0], b[1], b[2], b[3], b[4], b[5]), -1);
            Checks.lying("no home", x);
        }
        // Four miles: 0 (1), 1 (1), 2 (2), 3 (4) between two places: there in 3; in two ways none; in three none; four none:
        // to the other place an odd number of ways: 0 0 2, 0 1 2, .. 12 of them; 3 alone.
        String two = "place a;place b;way a to b 1;way b to a 1;way a to b 2;way a to b 4;" + SOULS + "matter m burns 4 of 1 1 1 1 1;";
        x = Checks.land(two);
        Checks.due("home by one", x.home(0, 1, 0, 0, 1, 1), 1);
        Checks.lying("home by one", x, 3);
        Checks.due("home by two", x.home(0, 1, 0, 0, 1, 2), 1);
        Checks.due("home by three", x.home(0, 1, 0, 0, 1, 3), 13);
        Checks.lying("home by three", x, 3);
        Checks.due("home by four", x.home(0, 1, 0, 0, 1, 4), 13);
        // Round to a again: 2 2, and four of 0 and 1.
        Checks.due("round by two", x.home(0, 1, 0, 0, 0, 2), 1);
        Checks.lying("round by two", x, 2, 2);
        Checks.due("round by four", x.home(0, 1, 0, 0, 0, 4), 17);
        Checks.lying("round by four", x, 2, 2);
        // Fewer ways first, though 0 0 0 0 was ahead by numbers; without way 2 it is the first.
        x = Checks.land(two.replace("way a to b 2;", ""));
        Checks.due("round by ones", x.home(0, 1, 0, 1, 1, 4), 16);
        Checks.lying("round by ones", x, 0, 0, 0, 0);
        // All 14 ways between two places.
        x = Checks.land("place a;place b;" + "way a to b 1;".repeat(14) + SOULS + "matter m burns 4 of 1 1 1 1 1;");
        Checks.due("home by many", x.home(0, 1, 0, 0, 0, 4), 14 * 14 * 14 * 14);
        Checks.lying("home by many", x, 0, 0, 0, 0);
        Checks.due("home by many", x.home(0, 1, 0, 0, 1, 4), 0);
        x = Checks.land("place a;" + SOULS + "matter m burns 4 of 1;");
        Checks.due("home without ways", x.home(0, 1, 0, 0, 0, 4), 0);
    }

    private static void temper() {
        Checks.part("promise 29");
        QuarrelMiles x = Checks.land(BASE);
        Checks.due("temper as it is", x.temper(0, 1, 0, 5), 0);
        Checks.lying("temper as it is", x, 2, 1, 0, 3);
        Checks.due("temper 6", x.temper(0, 1, 0, 6), -1);
        Checks.lying("no temper", x);
        int[][] bad = {{0, 1, 0, 0}, {0, 1, 0, 61}, {0, 1, 0, -1}, {0, 0, 0, 1}, {2, 0, 0, 1}, {0, 1, 2, 1}, {0, 1, -1, 1}};
        for (int[] b : bad) {
            x.temper(0, 1, 0, 5);
            Checks.due("temper", x.temper(b[0], b[1], b[2], b[3]), -2);
            Checks.lying("temper that can't be", x);
        }
        // Heat 10 * stubborn + short ends at 0; each has 1 1. The first one's 0 0 is two changes away.
        String rule = "matter m burns 9 of 1 1 1 1 1 1 1 1;heat 10 * stubborn + short;back 1;";
        x = Checks.land(SOULS + rule);
        Checks.due("temper 1", x.temper(0, 1, 0, 1), 2);
        Checks.lying("temper 1", x, 0, 0, 1, 1);
        Checks.due("temper 2", x.temper(0, 1, 0, 2), 2);
        Checks.lying("temper 2", x, 1, 1, 0, 0);
        Checks.due("temper 3", x.temper(0, 1, 0, 3), -1);
        // Of like ones the first: p and q as stubborn together as 10, from 3 and 3, four more; p as little as can be.
        x = Checks.land("soul p stubborn 3 short 5;soul q stubborn 3 short 5;matter m burns 9 of 1 1 1;"
            + "heat 50 * (mile = 1) + stubborn - 10 * (mile = 2) + (mile = 2) * (heat - 50);back 1;");
        // Word 1: heat 50 + s1; word 2: s2 - 10 + s1.
        Checks.due("temper by sums", x.temper(0, 1, 0, 2), 0);
        x = Checks.land("soul p stubborn 3 short 5;soul q stubborn 3 short 5;matter m burns 9 of 1 1 1;"
            + "heat 50 * (mile = 1) + stubborn + (mile = 2) * (heat - 50) - 6 * (mile = 2) - 9 * (mile = 3);");
        // Word 2: s1 + s2 - 6 is 0: ends there; for 3 words s1 + s2 is more than 6.
        Checks.due("temper 2", x.temper(0, 1, 0, 2), 0);
        Checks.due("temper 3", x.temper(0, 1, 0, 3), 1);
        Checks.lying("temper 3", x, 3, 5, 4, 5);
        // By short as well: less first where as many changes do.
        x = Checks.land("soul p stubborn 5 short 5;soul q stubborn 5 short 5;matter m burns 9 of 1 1;heat short % 3;");
        Checks.due("temper 1", x.temper(0, 1, 0, 1), 1);
        Checks.lying("temper 1", x, 5, 6, 5, 5);
        x = Checks.land("soul p stubborn 5 short 5;soul q stubborn 5 short 5;matter m burns 9 of 1 1;heat (short = 3) + (short = 7) = 0;");
        Checks.due("temper 1", x.temper(0, 1, 0, 1), 2);
        Checks.lying("temper 1", x, 5, 3, 5, 5);
        x = Checks.land("soul p stubborn 5 short 5;soul q stubborn 5 short 5;matter m burns 9 of 1 1 1;"
            + "heat (mile = 1) or (short = 3) + (short = 7) = 0;");
        Checks.due("temper 2", x.temper(0, 1, 0, 2), 2);
        Checks.lying("temper 2", x, 5, 5, 5, 3);
        x = Checks.land("soul p stubborn 5 short 5;soul q stubborn 5 short 5;matter m burns 9 of 1 1 1;"
            + "heat (mile = 1) or not (short = 8);");
        Checks.due("temper 2", x.temper(0, 1, 0, 2), 3);
        Checks.lying("temper 2", x, 5, 5, 5, 8);
        // The second one first: what lies there is of the first one ahead.
        Checks.due("temper 2 turned", x.temper(1, 0, 0, 2), 3);
        Checks.lying("temper 2 turned", x, 5, 5, 5, 8);
        // All the way.
        x = Checks.land("soul p stubborn 0 short 9;soul q stubborn 9 short 0;matter m burns 9 of 1 1 1;"
            + "heat not (mile = 2 and heat = 2 and stubborn = 0 and short = 9) and (1 + (stubborn = 9 and short = 0));");
        Checks.due("temper 2", x.temper(0, 1, 0, 2), -1);
        x = Checks.land("soul p stubborn 0 short 9;soul q stubborn 9 short 0;matter m burns 9 of 1 1 1;"
            + "heat 1 + (stubborn = 9 and short = 0) - 3 * (mile = 2 and heat = 2 and stubborn = 0 and short = 9);");
        Checks.due("temper 2", x.temper(0, 1, 0, 2), 36);
        Checks.lying("temper 2", x, 9, 0, 0, 9);
    }

    private static void bounds() {
        Checks.part("promise 29: 60 miles, years");
        QuarrelMiles x = Checks.land(SOULS + "matter m burns 9 of 1;heat 57 + stubborn + short - mile + 1;back 1;");
        // Who says word 57 + s + h + 1 by turns ends it: 60 is the second one's word, with s + h = 2 as it is.
        Checks.due("quarrel", x.quarrel(0, 1, 0), 60);
        Checks.due("temper 60", x.temper(0, 1, 0, 60), 0);
        Checks.due("temper 59", x.temper(0, 1, 0, 59), 1);
        Checks.lying("temper 59", x, 0, 1, 1, 1);
        Checks.due("temper 58", x.temper(0, 1, 0, 58), 2);
        Checks.lying("temper 58", x, 1, 1, 0, 0);
        Checks.due("temper 57", x.temper(0, 1, 0, 57), -1);
        // By tempers as they are now; nothing is done.
        x = Checks.land("soul p stubborn 0 short 0;soul q stubborn 0 short 0;matter m burns 9 of 1 1 1;heat stubborn;draw 1;");
        Checks.due("temper 1", x.temper(0, 1, 0, 1), 0);
        x.year();
        Checks.due("stubborn", x.soul(0, 0), 1);
        Checks.due("temper 1 a year later", x.temper(0, 1, 0, 1), 1);
        Checks.lying("temper 1 a year later", x, 0, 0, 0, 0);
        Checks.due("stubborn still", x.soul(0, 0), 1);
        Checks.due("quarrel still", x.quarrel(0, 1, 0), 2);
    }

    private static void lies() {
        Checks.part("promise 30");
        QuarrelMiles x = new QuarrelMiles();
        Checks.lying("nothing", x);
        x = Checks.land(BASE);
        Checks.lying("land", x);
        x.temper(0, 1, 0, 5);
        Checks.lying("temper", x, 2, 1, 0, 3);
        x.shortest(0, 2);
        Checks.lying("shortest", x, 0, 1);
        Checks.due("far", x.lies(Integer.MAX_VALUE), -1);
        Checks.due("far below", x.lies(Integer.MIN_VALUE), -1);
        x.undo();
        x.setOut(0, 1, 0, 0);
        x.image(0);
        x.back(0);
        x.start(0);
        x.ask(0, 0);
        Checks.lying("other calls", x, 0, 1);
        x.land();
        Checks.lying("land", x);
    }
}
