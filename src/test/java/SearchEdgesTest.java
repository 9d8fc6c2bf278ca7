/** The edges of promises 20 to 30: what is looked for, and what lies there then. */
public final class SearchEdgesTest {
    private static final int[][] NO_COUPLES = {{-1, 1, 0}, {2, 1, 0}, {0, -1, 0}, {0, 2, 0}, {0, 0, 0}, {1, 1, 0}, {0, 1, -1},
        {0, 1, 2}, {Edges.MAX, 1, 0}, {0, Edges.MIN, 0}, {0, 1, Edges.MAX}, {Edges.MIN, Edges.MIN, 0}};
    private static final int[][] NO_PLACES = {{-1, 0}, {3, 0}, {0, -1}, {0, 3}, {3, 3}, {-1, -1}, {Edges.MAX, 0}, {0, Edges.MAX},
        {Edges.MIN, 0}, {0, Edges.MIN}};
    private static final String AB = "place a;place b;";

    public static void main(String[] args) throws IllegalAccessException {
        Edges.run(SearchEdgesTest.class);
    }

    private static String call(String name, int... arguments) {
        StringBuilder told = new StringBuilder(name).append('(');
        for (int i = 0; i < arguments.length; i++) {
            told.append(i == 0 ? "" : ", ").append(arguments[i]);
        }
        return told.append(')').toString();
    }

    // ==== Promise 20: shortest

    static void promise20ShortestOfNoneSuch() {
        for (int[] b : NO_PLACES) {
            Edges.findsNothing(call("shortest", b), Edges::busy, x -> x.shortest(b[0], b[1]), -1);
        }
        Checks.due("shortest of nothing", new QuarrelMiles().shortest(0, 0), -1);
    }

    static void promise20ShortestWithoutAWayThere() {
        for (int[] b : new int[][] {{0, 2}, {2, 0}, {1, 2}, {2, 1}, {3, 2}}) {
            Edges.findsNothing(call("shortest", b), x -> {
                Edges.land(x, "place a;place b;place c;place d;way a to b 3;way b to d 1;" + Edges.lengths(1));
                x.shortest(0, 1);
            }, x -> x.shortest(b[0], b[1]), -1);
        }
    }

    static void promise20ShortestToItself() {
        for (int place = 0; place < 3; place++) {
            QuarrelMiles x = Edges.after(Edges::busy);
            Checks.due("shortest", x.shortest(place, place), 0);
            Checks.lying("shortest", x);
        }
    }

    static void promise20ShortestFirstAndLast() {
        // All eight places in a row, 40 miles each; the last way is number 13.
        QuarrelMiles x = Checks.land(Edges.lines("place", "", 8) + Edges.times("way a to b 40;", 7)
            + "way b to a 39;way c to b 40;way c to d 40;way e to d 40;way e to f 40;way g to f 40;way g to h 40;");
        Checks.due("shortest(0, 7)", x.shortest(0, 7), 279);
        Checks.lying("shortest(0, 7)", x, 7, 8, 9, 10, 11, 12, 13);
        Checks.due("shortest(7, 0)", x.shortest(7, 0), 279);
        Checks.lying("shortest(7, 0)", x, 13, 12, 11, 10, 9, 8, 7);
        Checks.due("shortest(6, 7)", x.shortest(6, 7), 40);
        Checks.lying("shortest(6, 7)", x, 13);
    }

    static void promise20ShortestIsByMilesNotByWays() {
        QuarrelMiles x = Checks.land("place a;place b;place c;way a to c 4;way a to b 1;way c to b 2;way c to a 3;");
        Checks.due("shortest", x.shortest(0, 2), 3);
        Checks.lying("shortest", x, 1, 2);
        Checks.due("shortest back", x.shortest(2, 0), 3);
        Checks.lying("shortest back", x, 2, 1);
        x = Checks.land("place a;place b;place c;way a to c 4;way a to b 1;way c to b 3;");
        Checks.due("like ones", x.shortest(0, 2), 4);
        Checks.lying("like ones", x, 0);
        Checks.due("like ones back", x.shortest(2, 0), 4);
        Checks.lying("like ones back", x, 0);
    }

    static void promise20ShortestOfLikeOnesTheFirst() {
        // a b d by 0 or 1 and 4, a c d by 2 3, all three miles; and a d by 5.
        QuarrelMiles x = Checks.land("place a;place b;place c;place d;way b to a 2;way a to b 2;way c to a 1;way c to d 2;"
            + "way d to b 1;way a to d 3;");
        Checks.due("shortest", x.shortest(0, 3), 3);
        Checks.lying("shortest", x, 0, 4);
        Checks.due("shortest back", x.shortest(3, 0), 3);
        Checks.lying("shortest back", x, 3, 2);
        // The first way decides, though the second one is less.
        x = Checks.land("place a;place b;place c;place d;way c to d 1;way a to b 1;way a to c 1;way b to d 1;");
        Checks.due("shortest", x.shortest(0, 3), 2);
        Checks.lying("shortest", x, 1, 3);
        Checks.due("shortest back", x.shortest(3, 0), 2);
        Checks.lying("shortest back", x, 0, 2);
    }

    // ==== Promise 21: send

    static void promise21SendOfNoneSuch() {
        for (int[] b : NO_PLACES) {
            Edges.findsNothing(call("send", b), Edges::busy, x -> x.send(b[0], b[1]), -1);
        }
        Checks.due("send of nothing", new QuarrelMiles().send(0, 0), -1);
    }

    static void promise21SendWithoutShortest() {
        Edges.findsNothing("send(0, 2)", x -> {
            Edges.land(x, "place a;place b;place c;way a to b 3;" + Edges.lengths(1));
            x.shortest(0, 1);
        }, x -> x.send(0, 2), -1);
    }

    static void promise21SendNobody() {
        // m is five miles: none that ends in two, and none to where they are.
        for (int[] b : new int[][] {{1, 2}, {0, 0}, {2, 2}}) {
            Edges.findsNothing(call("send", b), Edges::busy, x -> x.send(b[0], b[1]), 0);
        }
        for (String people : new String[] {"", "soul p stubborn 1 short 1;matter m burns 1 of 1;", Edges.TWO, "matter m burns 1 of 1;"}) {
            QuarrelMiles x = Checks.land(AB + "way a to b 1;" + people);
            Checks.due("send without couples", x.send(0, 1), 0);
            Checks.lying("send without couples", x);
        }
    }

    static void promise21SendJustAtTheEnd() {
        // Three miles and two.
        for (int burns = 1; burns <= 7; burns++) {
            QuarrelMiles x = Checks.land("place a;place b;place c;way b to a 3;way b to c 2;" + Edges.lengths(burns));
            Checks.due("send of " + burns, x.send(0, 2), burns == 5 ? 2 : 0);
            Checks.due("send back of " + burns, x.send(2, 0), burns == 5 ? 2 : 0);
            Checks.due("send over one way of " + burns, x.send(0, 1), burns == 3 ? 2 : 0);
        }
    }

    static void promise21SendTheFirstAndAll() {
        String souls = Edges.lines("soul", " stubborn 1 short 1", 6);
        QuarrelMiles x = Checks.land(AB + "way a to b 9;" + souls + Edges.lines("matter", " burns 9 of 1", 6) + "back 1;");
        Checks.due("send all", x.send(0, 1), 180);
        Checks.lying("send all", x, 0, 1, 0);
        // Only the last one of each ends there: (5, 4) by 5.
        x = Checks.land(AB + "way a to b 1;" + Edges.lines("soul", " stubborn 1 short 1", 5) + "soul f stubborn 0 short 1;"
            + Edges.lines("matter", " burns 9 of 1", 5) + "matter f burns 8 of 1;heat stubborn or not heat = 8;back 1;");
        Checks.due("send the last", x.send(1, 0), 5);
        Checks.lying("send the last", x, 5, 0, 5);
    }

    static void promise21SendIsByTempersAsTheyAreNow() {
        QuarrelMiles x = Checks.land(AB + "way a to b 1;soul p stubborn 0 short 0;soul q stubborn 0 short 0;matter m burns 9 of 1;"
            + "heat stubborn;back 1;draw 1;");
        Checks.due("send", x.send(0, 1), 2);
        Checks.due("a year of p", x.year(), 0);
        Checks.due("send now", x.send(0, 1), 1);
        Checks.lying("send now", x, 1, 0, 0);
    }

    // ==== Promise 22: measure

    static void promise22MeasureOfNoneSuch() {
        QuarrelMiles x = Checks.land(Checks.BASE);
        for (int[] b : NO_COUPLES) {
            Checks.due(call("measure", b) + " there", x.measure(b[0], b[1], b[2], 0, false), -1);
            Checks.due(call("measure", b) + " back", x.measure(b[0], b[1], b[2], 0, true), -1);
        }
        for (int way : new int[] {-1, 3, 14, Edges.MIN, Edges.MAX}) {
            Checks.due("measure of way " + way + " there", x.measure(0, 1, 0, way, false), -1);
            Checks.due("measure of way " + way + " back", x.measure(0, 1, 0, way, true), -1);
        }
        Checks.due("measure of the last way", x.measure(1, 0, 1, 2, true), 1);
    }

    static void promise22MeasureAheadOfItsEnd() {
        for (int miles : new int[] {1, 4, 5, 6, 10, 11, 39, 40}) {
            QuarrelMiles x = Checks.land(AB + "way a to b " + miles + ";" + Edges.lengths(5, 1, 40, 41));
            int due = (miles + 4) / 5;
            Checks.due(miles + " miles by 5", x.measure(0, 1, 0, 0, false), due);
            Checks.due(miles + " miles back by 5", x.measure(1, 0, 0, 0, true), due);
            Checks.due(miles + " miles by 1", x.measure(0, 1, 1, 0, false), miles);
            Checks.due(miles + " miles by 40", x.measure(0, 1, 2, 0, false), 1);
            Checks.due(miles + " miles by 41", x.measure(0, 1, 3, 0, true), 1);
        }
    }

    static void promise22MeasureBeginsAnew() {
        // Heat, griefs and the word's number are as at first, and the first one speaks first.
        QuarrelMiles x = Checks.land(AB + "way a to b 9;soul p stubborn 3 short 0;soul q stubborn 1 short 0;"
            + "matter m burns 50 of 1 2 3;heat heat - mile * 4 * (stubborn = 3);");
        Checks.due("measure by griefs", x.measure(0, 1, 0, 0, false), 3);
        x = Checks.land(AB + "way a to b 12;soul p stubborn 3 short 0;soul q stubborn 1 short 0;"
            + "matter m burns 50 of 1;heat 4 * stubborn - mile * 4;back 1;");
        // p: 8, q: -4, so it is two words; q: 0, one word.
        Checks.due("measure by p", x.measure(0, 1, 0, 0, false), 6);
        Checks.due("measure by q", x.measure(1, 0, 0, 0, true), 12);
    }

    static void promise22MeasureHasSightsAndEnds() {
        QuarrelMiles x = Checks.land("place a calm 9;place b echo 9;way a to b 6 sight -1;" + Edges.lengths(4));
        // Two words each: 4, 2, 0.
        Checks.due("there", x.measure(0, 1, 0, 0, false), 3);
        Checks.due("back", x.measure(0, 1, 0, 0, true), 3);
    }

    static void promise22MeasureDoesNothing() {
        Edges.onlyTells("measure", Edges::busy, x -> x.measure(0, 1, 0, 2, false) + x.measure(1, 0, 1, 1, true));
    }

    // ==== Promise 23: adds

    static void promise23AddsOfNoneSuch() {
        QuarrelMiles x = Checks.land(Checks.BASE);
        for (int way : new int[] {-1, 3, 14, Edges.MIN, Edges.MAX}) {
            for (int other = 0; other < 3; other++) {
                Checks.due(call("adds", way, other), x.adds(way, other), -1);
                Checks.due(call("adds", other, way), x.adds(other, way), -1);
            }
            Checks.due(call("adds", way, way), x.adds(way, way), -1);
        }
        Checks.due("adds of nothing", new QuarrelMiles().adds(0, 0), -1);
    }

    static void promise23AddsBeginsWhereItEndsAsTold() {
        // a to b, b to c, a to c, c to b, b to a.
        QuarrelMiles x = Checks.land("place a;place b;place c;way a to b 1;way b to c 1;way a to c 1;way c to b 1;way b to a 1;"
            + Edges.lengths(1));
        int[] from = {0, 1, 0, 2, 1};
        int[] to = {1, 2, 2, 1, 0};
        for (int way = 0; way < 5; way++) {
            for (int other = 0; other < 5; other++) {
                Checks.due(call("adds", way, other), x.adds(way, other), to[way] == from[other] ? 2 : -1);
            }
        }
    }

    static void promise23AddsTogetherAsManyAsInOne() {
        for (int first = 1; first <= 11; first++) {
            for (int second = 1; second <= 11; second++) {
                QuarrelMiles x = Checks.land("place a;place b;place c;way a to b " + first + ";way b to c " + second + ";" + Edges.lengths(5));
                int apart = (first + 4) / 5 + (second + 4) / 5;
                int inOne = (first + second + 4) / 5;
                Checks.due("adds of " + first + " and " + second, x.adds(0, 1), apart == inOne ? 2 : 0);
            }
        }
    }

    static void promise23AddsInOneGoesOnAtThePlace() {
        // The calm of b makes the end of one that has 2 left behind three miles, the echo of b goes on in one that has none.
        QuarrelMiles x = Checks.land("place a;place b calm 2;place c;way a to b 3;way b to c 2;" + Edges.lengths(5));
        Checks.due("with calm 2", x.adds(0, 1), 2);
        x = Checks.land("place a;place b calm 1;place c;way a to b 3;way b to c 2;" + Edges.lengths(5));
        Checks.due("with calm 1", x.adds(0, 1), 2);
        x = Checks.land("place a calm 2;place b;place c calm 2;way a to b 3;way b to c 2;" + Edges.lengths(5));
        Checks.due("with calm elsewhere", x.adds(0, 1), 0);
        // Three griefs end just at b, so that b begins another one; with an echo it is one.
        String people = Edges.TWO + "matter m burns 50 of 1 1 1;";
        x = Checks.land("place a;place b;place c;way a to b 3;way b to c 1;" + people);
        Checks.due("without echo", x.adds(0, 1), 2);
        x = Checks.land("place a;place b echo 1;place c;way a to b 3;way b to c 1;" + people);
        Checks.due("with echo", x.adds(0, 1), 0);
    }

    static void promise23AddsWithoutCouples() {
        Checks.due("adds", Checks.land("place a;place b;place c;way a to b 3;way b to c 1;").adds(0, 1), 0);
        Edges.onlyTells("adds", Edges::busy, x -> x.adds(0, 1));
    }

    // ==== Promise 24: fair

    static void promise24FairAllWithoutWays() {
        for (int souls = 0; souls <= 6; souls++) {
            for (int matters : new int[] {0, 1, 6}) {
                String people = Edges.lines("soul", " stubborn 1 short 1", souls) + Edges.lines("matter", " burns 9 of 1", matters);
                Checks.due("fair", Checks.land(people).fair(), Math.max(0, souls * (souls - 1) * matters));
            }
        }
        Checks.due("fair of nothing", new QuarrelMiles().fair(), 0);
    }

    /** Calm and echo are at the end alone, where no new one is begun: there and back are alike. */
    static void promise24FairThereAndBack() {
        QuarrelMiles x = Checks.land("place a calm 9;place b echo 9;place c calm 3 echo 3;way a to b 9 sight -2;way c to b 40 sight 1;"
            + "way c to a 3;" + Edges.lengths(4, 9) + "heat heat - 1;");
        Checks.due("fair", x.fair(), 4);
        for (int way = 0; way < 3; way++) {
            for (int matter = 0; matter < 2; matter++) {
                Checks.due("there and back", x.measure(0, 1, matter, way, false), x.measure(0, 1, matter, way, true));
            }
        }
        Edges.onlyTells("fair", Edges::busy, QuarrelMiles::fair);
    }

    // ==== Promise 25: cover

    static void promise25CoverWithoutWays() {
        Edges.findsNothing("cover()", x -> {
            Edges.land(x, AB + Edges.lengths(1));
            x.temper(0, 1, 0, 1);
        }, QuarrelMiles::cover, 0);
        Checks.due("cover of nothing", new QuarrelMiles().cover(), 0);
    }

    /** As many couples as there are lengths, and ways of so many miles; one couple has one length. */
    private static QuarrelMiles cover(int... miles) {
        StringBuilder ways = new StringBuilder(AB);
        for (int m : miles) {
            ways.append("way a to b ").append(m).append(';');
        }
        return Checks.land(ways + Edges.lengths(6, 5, 4, 3, 2, 1));
    }

    static void promise25CoverBy1To3() {
        QuarrelMiles x = cover(3);
        Checks.due("one length", x.cover(), 1);
        Checks.lying("one length", x, 13);
        x = cover(3, 6);
        Checks.due("two lengths", x.cover(), 2);
        Checks.lying("two lengths", x, 10, 13);
        x = cover(1, 6, 2, 6, 1, 2, 1, 6, 2, 6, 1, 2, 1, 6);
        Checks.due("three lengths", x.cover(), 3);
        Checks.lying("three lengths", x, 10, 14, 15);
        x = cover(1, 1, 1, 1, 1, 1, 1, 1, 1, 1, 1, 1, 1, 1);
        Checks.due("14 ways of a length", x.cover(), 1);
        Checks.lying("14 ways of a length", x, 15);
    }

    /** All 180 end a mile, the last one alone two miles, too. */
    static void promise25CoverByTheLastCouple() {
        String people = Edges.lines("soul", " stubborn 1 short 1", 4) + "soul e stubborn 3 short 1;soul f stubborn 2 short 1;"
            + Edges.lines("matter", " burns 9 of 1", 5) + "matter f burns 5 of 1;"
            + "heat 9 - (stubborn = 2 and heat = 5) - 9 * (stubborn = 3 and heat = 8);back 1;";
        QuarrelMiles x = Checks.land(AB + "way a to b 1 sight -9;" + people);
        Checks.due("who ends a mile", x.send(0, 1), 180);
        Checks.due("cover of a mile", x.cover(), 1);
        Checks.lying("cover of a mile", x, 10);
        x = Checks.land(AB + "way a to b 1 sight -9;way a to b 2;" + people);
        Checks.due("cover of two miles, too", x.cover(), 1);
        Checks.lying("cover of two miles, too", x, 545);
    }

    static void promise25CoverOneBehindTheOther() {
        QuarrelMiles x = Checks.land(AB + "way a to b 1;way b to a 2;heat stubborn;soul p stubborn 0 short 0;soul q stubborn 1 short 1;"
            + "matter m burns 9 of 1 1 1 1 1;draw 1;");
        Checks.due("cover", x.cover(), 2);
        Checks.lying("cover", x, 10, 100);
        x.year();
        Checks.due("cover behind a year", x.cover(), -1);
        Checks.lying("cover behind a year", x);
        x.undo();
        Checks.due("cover again", x.cover(), 2);
        Checks.lying("cover again", x, 10, 100);
    }

    static void promise25CoverBy4IsNone() {
        for (String ways : new String[] {"1 2 3 4", "1 2 3 7", "7", "1 2 3 4 5 6", "1 1 1 1 1 1 1 1 1 1 1 1 1 7"}) {
            Edges.findsNothing("cover() of " + ways, x -> {
                Edges.land(x, AB + "way a to b " + ways.replace(" ", ";way a to b ") + ";" + Edges.lengths(6, 5, 4, 3, 2, 1));
                x.shortest(0, 1);
            }, QuarrelMiles::cover, -1);
        }
    }

    static void promise25CoverOfLikeOnesTheFirst() {
        // With p first it is three miles, with q first two, with r first one, whoever is the other one.
        QuarrelMiles x = Checks.land(AB + "way a to b 3;way a to b 2;way a to b 1;"
            + "soul p stubborn 3 short 0;soul q stubborn 2 short 0;soul r stubborn 1 short 0;matter m burns 50 of 1;matter n burns 50 of 1;"
            + "heat (mile = 1) * (10 * stubborn - 10) + (mile > 1) * (heat - 10);back 1;");
        Checks.due("cover", x.cover(), 3);
        Checks.lying("cover", x, 10, 100, 200);
        // By its sight the last way is walked by what burns 2 or 1, then by what burns 5 or less.
        x = Checks.land(AB + "way a to b 6;way a to b 3 sight -1;way a to b 5;way a to b 1 sight -1;" + Edges.lengths(6, 5, 4, 3, 2, 1));
        Checks.due("cover", x.cover(), 3);
        Checks.lying("cover", x, 10, 11, 14);
        x = Checks.land(AB + "way a to b 6;way a to b 3 sight -1;way a to b 5;way a to b 1 sight -4;" + Edges.lengths(6, 5, 4, 3, 2, 1));
        Checks.due("cover", x.cover(), 2);
        Checks.lying("cover", x, 10, 11);
    }

    static void promise25CoverIsWalkedThere() {
        // b is calm: to b 3 miles end by what burns 3, 4 and 5, to a by 3 alone.
        String lengths = Edges.lengths(6, 5, 4, 3, 2, 1);
        QuarrelMiles x = Checks.land("place a;place b calm 2;way a to b 3;" + lengths);
        Checks.due("to b", x.cover(), 1);
        Checks.lying("to b", x, 11);
        x = Checks.land("place a;place b calm 2;way b to a 3;" + lengths);
        Checks.due("to a", x.cover(), 1);
        Checks.lying("to a", x, 13);
    }

    // ==== Promise 26: turned

    static void promise26TurnedCountsTwoOnce() {
        for (int souls = 0; souls <= 6; souls++) {
            for (int matters : new int[] {0, 1, 6}) {
                String people = Edges.lines("soul", " stubborn 1 short 1", souls) + Edges.lines("matter", " burns 9 of 1", matters);
                Checks.due("turned", Checks.land(people).turned(), Math.max(0, souls * (souls - 1) / 2 * matters));
            }
        }
    }

    static void promise26TurnedAsLongWhoeverBegins() {
        // Who is stubborn goes on: p first is one word, q first two.
        String two = "soul p stubborn 0 short 0;soul q stubborn 1 short 0;";
        Checks.due("one and two words", Checks.land(two + "matter m burns 9 of 1;heat stubborn;back 1;").turned(), 0);
        Checks.due("both never", Checks.land(two + "matter m burns 9 of 1;heat 9;back 1;").turned(), 1);
        // 200 and never: the second one says the 200th word.
        QuarrelMiles x = Checks.land(two + "matter m burns 9 of 1;heat not (mile = 200 and stubborn);back 1;");
        Checks.due("q the 200th", x.quarrel(0, 1, 0), 200);
        Checks.due("p the 200th", x.quarrel(1, 0, 0), -1);
        Checks.due("200 and never", x.turned(), 0);
        // Both behind the sea are as long.
        Checks.due("201 and 202", Checks.land(two + "matter m burns 9 of 1;heat 201 + stubborn - mile;back 1;").turned(), 1);
    }

    static void promise26TurnedDoesNothing() {
        Checks.due("turned of nothing", new QuarrelMiles().turned(), 0);
        Edges.onlyTells("turned", Edges::busy, QuarrelMiles::turned);
    }

    // ==== Promise 27: loud

    static void promise27LoudOfNoneSuch() {
        QuarrelMiles x = Checks.land(Checks.BASE);
        for (int[] b : NO_COUPLES) {
            Checks.due(call("loud", b) + " 0", x.loud(b[0], b[1], b[2], 0), -2);
            Checks.due(call("loud", b) + " 1", x.loud(b[0], b[1], b[2], 1), -2);
        }
        for (int what : new int[] {-1, 2, 3, Edges.MIN, Edges.MAX}) {
            Checks.due("loud what " + what, x.loud(0, 1, 0, what), -2);
        }
    }

    private static void loud(String rules, int heat, int word) {
        QuarrelMiles x = Checks.land(Edges.TWO + "matter m burns 60 of 1 1 1;" + rules);
        Checks.due("loud 0 of " + rules, x.loud(0, 1, 0, 0), heat);
        Checks.due("loud 1 of " + rules, x.loud(0, 1, 0, 1), word);
    }

    static void promise27LoudIsBehindAWord() {
        // 60 is ahead of the first one.
        loud("", 59, 1);
        loud("heat 0;", 0, 1);
        loud("heat 100;", 99, 1);
    }

    static void promise27LoudTheFirstWord() {
        loud("heat 7;", 7, 1);
        loud("heat 7 + (mile > 1);", 8, 2);
        loud("heat 7 + (mile > 2);", 8, 3);
        loud("heat 10 - mile;", 9, 1);
        loud("heat 98 + mile;", 99, 1);
        loud("heat 97 + mile;", 99, 2);
    }

    static void promise27LoudTillItEndsOrThe200th() {
        loud("heat 7 + (mile = 200);back 1;", 8, 200);
        loud("heat 7 + (mile = 199) + (mile = 200);back 1;", 8, 199);
        loud("heat 7 + (mile = 201);back 1;", 7, 1);
        // Griefs end it at the third word, heat at the second.
        loud("heat 7 + (mile > 3);", 7, 1);
        loud("heat 7 * (mile = 1) + 9 * (mile = 3);", 7, 1);
    }

    // ==== Promise 28: home

    static void promise28HomeOfNoneSuch() {
        for (int[] b : NO_COUPLES) {
            Edges.findsNothing(call("home", b), Edges::busy, x -> x.home(b[0], b[1], b[2], 0, 1, 1), -1);
        }
        for (int[] b : NO_PLACES) {
            Edges.findsNothing(call("home from and to", b), Edges::busy, x -> x.home(0, 1, 0, b[0], b[1], 1), -1);
        }
        for (int n : new int[] {-1, 0, 5, 6, Edges.MIN, Edges.MAX}) {
            Edges.findsNothing("home n " + n, Edges::busy, x -> x.home(0, 1, 0, 0, 1, n), -1);
        }
    }

    static void promise28HomeNothing() {
        Edges.findsNothing("home(0, 1, 0, 0, 2, 4)", Edges::busy, x -> x.home(0, 1, 0, 0, 2, 4), 0);
        Edges.findsNothing("home without ways", x -> {
            Edges.land(x, AB + Edges.lengths(1));
            x.temper(0, 1, 0, 1);
        }, x -> x.home(0, 1, 0, 0, 0, 4), 0);
        Edges.findsNothing("home to where no way leads", x -> {
            Edges.land(x, "place a;place b;place c;way a to b 1;" + Edges.lengths(2, 3));
            x.temper(0, 1, 0, 2);
        }, x -> x.home(0, 1, 0, 0, 2, 4), 0);
    }

    static void promise28HomeOf1To4Ways() {
        // A mile there and back: as many ways as it is long.
        for (int burns = 1; burns <= 5; burns++) {
            for (int n = 1; n <= 4; n++) {
                for (int to = 0; to < 2; to++) {
                    QuarrelMiles x = Checks.land(AB + "way b to a 1;" + Edges.lengths(burns));
                    boolean isHome = burns <= n && burns % 2 == to;
                    Checks.due("home by " + burns + " to " + to + " of " + n, x.home(0, 1, 0, 0, to, n), isHome ? 1 : 0);
                    Checks.lying("home by " + burns + " to " + to + " of " + n, x, new int[isHome ? burns : 0]);
                }
            }
        }
    }

    static void promise28HomeJustAtTheEnd() {
        for (int burns = 1; burns <= 8; burns++) {
            QuarrelMiles x = Checks.land("place a;place b;place c;way b to a 3;way b to c 2;" + Edges.lengths(burns));
            Checks.due("home by " + burns, x.home(0, 1, 0, 0, 2, 2), burns == 5 ? 1 : 0);
        }
    }

    static void promise28HomeFewerWaysFirstThenWayByWay() {
        // Four miles: 0 0 (2 each), 1 1 1 1 and so on (1 each), 3 alone.
        QuarrelMiles x = Checks.land(AB + "way a to b 1;way b to a 1;way a to b 2;way b to a 2;" + Edges.lengths(4, 3));
        Checks.due("round by two", x.home(0, 1, 0, 0, 0, 2), 4);
        Checks.lying("round by two", x, 2, 2);
        // Four ones, each by two ways: 16 more.
        Checks.due("round by four", x.home(0, 1, 0, 0, 0, 4), 20);
        Checks.lying("round by four", x, 2, 2);
        // To b by three: 0 0 2 and so on: four, two and two ways in three places.
        Checks.due("there by three", x.home(0, 1, 0, 0, 1, 3), 24);
        Checks.lying("there by three", x, 0, 0, 2);
        Checks.due("three miles there", x.home(0, 1, 1, 0, 1, 4), 8);
        Checks.lying("three miles there", x, 0, 0, 0);
        Checks.due("three miles round", x.home(0, 1, 1, 1, 1, 4), 8);
        Checks.lying("three miles round", x, 0, 2);
    }

    static void promise28HomeOneBehindTheOther() {
        String text = AB + "way a to b 1;way b to a 1;way a to b 2;way b to a 2;" + Edges.lengths(4, 3, 5);
        int[][] calls = {{0, 0, 0, 4}, {1, 0, 1, 3}, {2, 1, 0, 4}, {0, 1, 1, 2}, {1, 1, 1, 1}, {0, 0, 0, 4}};
        QuarrelMiles x = Checks.land(text);
        for (int[] c : calls) {
            QuarrelMiles y = Checks.land(text);
            Checks.due(call("home by", c), x.home(0, 1, c[0], c[1], c[2], c[3]), y.home(0, 1, c[0], c[1], c[2], c[3]));
            Checks.due("numbers behind " + call("home by", c), x.about(13), y.about(13));
            for (int i = 0; i < 4; i++) {
                Checks.due("lies(" + i + ") behind " + call("home by", c), x.lies(i), y.lies(i));
            }
        }
    }

    static void promise28HomeAllThereCanBe() {
        QuarrelMiles x = Checks.land(AB + Edges.times("way a to b 1;", 14) + Edges.lengths(4));
        Checks.due("home", x.home(0, 1, 0, 1, 1, 4), 14 * 14 * 14 * 14);
        Checks.lying("home", x, 0, 0, 0, 0);
        x = Checks.land(AB + Edges.times("way a to b 1;", 13) + "way b to a 4;" + Edges.lengths(4));
        Checks.due("home by the last way", x.home(0, 1, 0, 0, 1, 4), 1);
        Checks.lying("home by the last way", x, 13);
    }

    // ==== Promise 29: temper

    static void promise29TemperOfNoneSuch() {
        for (int[] b : NO_COUPLES) {
            Edges.findsNothing(call("temper", b), Edges::busy, x -> x.temper(b[0], b[1], b[2], 5), -2);
        }
        for (int miles : new int[] {-1, 0, 61, 62, Edges.MIN, Edges.MAX}) {
            Edges.findsNothing("temper of miles " + miles, Edges::busy, x -> x.temper(0, 1, 0, miles), -2);
        }
    }

    static void promise29TemperOf1To60Miles() {
        for (int miles : new int[] {1, 2, 59, 60}) {
            QuarrelMiles x = Checks.land(Edges.lengths(miles));
            Checks.due("temper of miles " + miles, x.temper(0, 1, 0, miles), 0);
            Checks.lying("temper of miles " + miles, x, 1, 1, 1, 1);
        }
    }

    static void promise29TemperNone() {
        for (int miles : new int[] {1, 4, 6, 60}) {
            Edges.findsNothing("temper of miles " + miles, Edges::busy, x -> x.temper(0, 1, 0, miles), -1);
        }
        // 61 miles are none of 60.
        Edges.findsNothing("temper of 61", x -> {
            Edges.land(x, Edges.lengths(61, 1));
            x.temper(0, 1, 1, 1);
        }, x -> x.temper(0, 1, 0, 60), -1);
    }

    private static QuarrelMiles temper(int a, int b, int c, int d, String rules) {
        return Checks.land("soul p stubborn " + a + " short " + b + ";soul q stubborn " + c + " short " + d + ";matter m burns 50 of 1;"
            + rules + "back 1;");
    }

    static void promise29TemperOf0To9Each() {
        // Two miles, if p is x y and q is z w, which is told by two words.
        int[][] ends = {{9, 9, 9, 9}, {0, 0, 0, 0}, {9, 0, 9, 0}, {0, 9, 0, 9}};
        for (int[] e : ends) {
            String rule = "heat 50 * (mile = 1) + (mile = 2) * (1 - (stubborn = " + e[2] + " and short = " + e[3] + ") * (heat = 51))"
                + " + (mile = 1) * (stubborn = " + e[0] + " and short = " + e[1] + ") + (mile > 2);";
            QuarrelMiles x = temper(9 - e[0], 9 - e[1], 9 - e[2], 9 - e[3], rule);
            Checks.due("temper", x.temper(0, 1, 0, 2), 36);
            Checks.lying("temper", x, e);
            x = temper(e[0], e[1], e[2], e[3], rule);
            Checks.due("temper as it is", x.temper(0, 1, 0, 2), 0);
            Checks.lying("temper as it is", x, e);
        }
    }

    /** Each of the four alone would do with 10, or with one less than 0. */
    static void promise29TemperNoneBelow0OrAbove9() {
        for (String unit : new String[] {"stubborn", "short"}) {
            for (int miles = 1; miles <= 2; miles++) {
                QuarrelMiles x = temper(9, 9, 9, 9, "heat not (mile = " + miles + " and " + unit + " = 10);");
                Checks.due(unit + " of 10", x.temper(0, 1, 0, miles), -1);
                Checks.lying(unit + " of 10", x);
                x = temper(9, 9, 9, 9, "heat not (mile = " + miles + " and " + unit + " > 8);");
                Checks.due(unit + " of 9", x.temper(0, 1, 0, miles), 0);
                x = temper(0, 0, 0, 0, "heat not (mile = " + miles + " and " + unit + " < 0);");
                Checks.due(unit + " below 0", x.temper(0, 1, 0, miles), -1);
                Checks.lying(unit + " below 0", x);
                x = temper(0, 0, 0, 0, "heat not (mile = " + miles + " and " + unit + " < 1);");
                Checks.due(unit + " of 0", x.temper(0, 1, 0, miles), 0);
            }
        }
    }

    /** A temper that one formula asks for, whatever the other one does. */
    static void promise29TemperThatOneFormulaAsksFor() {
        String people = "soul p stubborn 5 short 5;soul q stubborn 5 short 5;matter m burns 9 of 1 1 1;";
        String[] rules = {"heat stubborn;", "heat short;", "back stubborn;", "back short;"};
        int[] lengths = {1, 1, 3, 3};
        int[] changes = {5, 5, 10, 10};
        int[][] due = {{0, 5, 5, 5}, {5, 0, 5, 5}, {0, 5, 0, 5}, {5, 0, 5, 0}};
        for (int i = 0; i < rules.length; i++) {
            QuarrelMiles x = Checks.land(people + rules[i]);
            Checks.due("temper by " + rules[i], x.temper(0, 1, 0, lengths[i]), changes[i]);
            Checks.lying("temper by " + rules[i], x, due[i]);
        }
    }

    static void promise29TemperThatOneOfTheFourMustHave() {
        // The second word is answered only by one temper of one of them; the other three are as low as can be, or as high.
        String[] rules = {"mile = 1 and stubborn = 4", "mile = 1 and short = 4", "mile = 2 and stubborn = 4", "mile = 2 and short = 4"};
        for (int low = 0; low <= 9; low += 9) {
            for (int i = 0; i < 4; i++) {
                QuarrelMiles x = Checks.land(Edges.lines("soul", " stubborn " + low + " short " + low, 2)
                    + "matter m burns 9 of 1;back " + rules[i] + (i < 2 ? ";" : " or mile < 2;"));
                int[] due = {low, low, low, low};
                due[i] = 4;
                int miles = i < 2 ? 2 : 3;
                Checks.due("temper by " + rules[i], x.temper(0, 1, 0, miles), Math.abs(low - 4));
                Checks.lying("temper by " + rules[i], x, due);
                Checks.due("temper by " + rules[i], x.temper(0, 1, 0, miles - 1), 0);
            }
        }
    }

    static void promise29TemperOfTheFirstAndTheLastSouls() {
        QuarrelMiles x = Checks.land(Edges.lines("soul", " stubborn 1 short 1", 5) + "soul f stubborn 5 short 5;"
            + Edges.lines("matter", " burns 9 of 1", 6) + "heat not (mile = 2 and stubborn = 7 and short = 2);back 1;");
        Checks.due("temper of f and e", x.temper(5, 4, 5, 2), 7);
        Checks.lying("temper of f and e", x, 5, 5, 7, 2);
        Checks.due("temper of e and f", x.temper(4, 5, 5, 2), 5);
        Checks.lying("temper of e and f", x, 1, 1, 7, 2);
        Checks.due("temper of a and f", x.temper(0, 5, 0, 2), 5);
        Checks.lying("temper of a and f", x, 1, 1, 7, 2);
    }

    static void promise29TemperTheFewestChanges() {
        // 5 from 3 is two, from 8 three.
        QuarrelMiles x = temper(3, 8, 0, 0, "heat not (stubborn = 5 or short = 5);");
        Checks.due("temper", x.temper(0, 1, 0, 1), 2);
        Checks.lying("temper", x, 5, 8, 0, 0);
        x = temper(2, 8, 0, 0, "heat not (stubborn = 5 or short = 5);");
        Checks.due("temper", x.temper(0, 1, 0, 1), 3);
        // Of like ones the less stubborn first.
        Checks.lying("temper", x, 2, 5, 0, 0);
        x = temper(1, 8, 0, 0, "heat not (stubborn = 5 or short = 5);");
        Checks.due("temper", x.temper(0, 1, 0, 1), 3);
        Checks.lying("temper", x, 1, 5, 0, 0);
    }

    static void promise29TemperOfLikeOnesTheLessFirst() {
        // Down and up are as many changes.
        QuarrelMiles x = temper(5, 5, 5, 5, "heat not (stubborn = 3 or stubborn = 7);");
        Checks.due("temper 1", x.temper(0, 1, 0, 1), 2);
        Checks.lying("temper 1", x, 3, 5, 5, 5);
        Checks.due("temper 2", x.temper(0, 1, 0, 2), 2);
        Checks.lying("temper 2", x, 5, 5, 3, 5);
        x = temper(5, 5, 5, 5, "heat not (short = 3 or short = 7);");
        Checks.due("temper 1 by short", x.temper(0, 1, 0, 1), 2);
        Checks.lying("temper 1 by short", x, 5, 3, 5, 5);
        Checks.due("temper 2 by short", x.temper(0, 1, 0, 2), 2);
        Checks.lying("temper 2 by short", x, 5, 5, 5, 3);
        // Any of the four one less would do: the first one's stubborn.
        x = temper(5, 5, 5, 5, "heat 50 * (mile = 1) + (mile = 1) * (stubborn + short) + (mile = 2) * (heat + stubborn + short - 69);");
        Checks.due("temper 2 by sums", x.temper(0, 1, 0, 2), 1);
        Checks.lying("temper 2 by sums", x, 4, 5, 5, 5);
        x = temper(0, 5, 5, 5, "heat 50 * (mile = 1) + (mile = 1) * (stubborn + short) + (mile = 2) * (heat + stubborn + short - 64);");
        Checks.due("temper 2 by sums", x.temper(0, 1, 0, 2), 1);
        Checks.lying("temper 2 by sums", x, 0, 4, 5, 5);
        x = temper(0, 0, 5, 5, "heat 50 * (mile = 1) + (mile = 1) * (stubborn + short) + (mile = 2) * (heat + stubborn + short - 59);");
        Checks.due("temper 2 by sums", x.temper(0, 1, 0, 2), 1);
        Checks.lying("temper 2 by sums", x, 0, 0, 4, 5);
        x = temper(0, 0, 0, 5, "heat 50 * (mile = 1) + (mile = 1) * (stubborn + short) + (mile = 2) * (heat + stubborn + short - 54);");
        Checks.due("temper 2 by sums", x.temper(0, 1, 0, 2), 1);
        Checks.lying("temper 2 by sums", x, 0, 0, 0, 4);
    }

    static void promise29TemperIsFromTempersAsTheyAreNow() {
        QuarrelMiles x = Checks.land("soul p stubborn 0 short 0;soul q stubborn 0 short 0;matter m burns 9 of 1;heat stubborn;back 1;draw 1;");
        Checks.due("temper", x.temper(0, 1, 0, 1), 0);
        Checks.due("a year of p", x.year(), 0);
        Checks.due("temper now", x.temper(0, 1, 0, 1), 1);
        Checks.lying("temper now", x, 0, 0, 0, 0);
        Checks.due("nothing is done", x.soul(0, 0), 1);
    }

    /** Three souls: those of the couple are changed, and what lies there is of the first one ahead. */
    static void promise29TemperOfTheTwoOfACouple() {
        QuarrelMiles x = Checks.land("soul p stubborn 1 short 2;soul q stubborn 3 short 4;soul r stubborn 5 short 6;matter m burns 9 of 1;"
            + "heat not (stubborn = 9 and short = 0);back 1;");
        Checks.due("temper of r and q", x.temper(2, 1, 0, 1), 10);
        Checks.lying("temper of r and q", x, 9, 0, 3, 4);
        Checks.due("temper of r and q", x.temper(2, 1, 0, 2), 10);
        Checks.lying("temper of r and q", x, 5, 6, 9, 0);
    }

    // ==== Promise 30: lies

    static void promise30LiesFirstAndLast() {
        QuarrelMiles x = Edges.after(Edges::busy);
        Checks.lying("shortest", x, 0, 1);
        x.temper(0, 1, 0, 5);
        Checks.lying("temper", x, 3, 1, 0, 3);
        x.send(0, 1);
        Checks.lying("send", x, 0, 1, 0);
        x.home(0, 1, 0, 0, 1, 1);
        Checks.lying("home", x, 0);
    }

    static void promise30LiesNoneSuch() {
        QuarrelMiles x = Edges.after(Edges::busy);
        for (int i : new int[] {-1, 2, 3, 12, Edges.MIN, Edges.MAX}) {
            Checks.due("lies(" + i + ")", x.lies(i), -1);
        }
        for (int i : new int[] {-1, 0, 1, Edges.MIN, Edges.MAX}) {
            Checks.due("lies(" + i + ") of nothing", new QuarrelMiles().lies(i), -1);
        }
    }

    static void promise30LiesTillAnotherLiesThere() {
        Edges.Act[] others = {x -> x.quarrel(0, 1, 0), x -> x.walked(0, 1, 0, 0), x -> x.measure(0, 1, 0, 0, false), x -> x.adds(0, 1),
            QuarrelMiles::fair, QuarrelMiles::turned, x -> x.loud(0, 1, 0, 0), x -> x.report(0, 1, 0, 0), x -> x.ask(0, 0),
            x -> x.setOut(0, 1, 0, 0), QuarrelMiles::year, QuarrelMiles::undo, x -> x.start(0), x -> x.image(0), x -> x.back(0),
            x -> x.later(1), x -> x.end(0)};
        for (int i = 0; i < others.length; i++) {
            QuarrelMiles x = Edges.after(Edges::busy);
            others[i].on(x);
            Checks.lying("call " + i, x, 0, 1);
        }
    }

    // ==== "Nothing is done"

    static void promise21To29AreByTempersAsTheyAreNow() {
        Edges.byTempersNow("send", x -> 1000 * x.send(1, 2) + 100 * x.lies(0) + 10 * x.lies(1) + x.lies(2));
        Edges.byTempersNow("measure", x -> x.measure(0, 1, 0, 2, false));
        Edges.byTempersNow("measure back", x -> x.measure(1, 0, 0, 2, true));
        Edges.byTempersNow("adds", x -> x.adds(0, 1));
        Edges.byTempersNow("cover", AB + "way a to b 3;", x -> 1000 * x.cover() + x.lies(0));
        Edges.byTempersNow("turned", QuarrelMiles::turned);
        Edges.byTempersNow("loud", x -> 1000 * x.loud(0, 1, 2, 0) + x.loud(0, 1, 2, 1));
        Edges.byTempersNow("home", x -> x.home(0, 1, 0, 0, 1, 4));
        Edges.byTempersNow("temper", x -> x.temper(0, 1, 2, 5));
    }

    static void promise20To29DoNothingButLay() {
        Edges.Call[] searches = {x -> x.shortest(0, 2), x -> x.send(0, 1), QuarrelMiles::cover, x -> x.home(0, 1, 0, 1, 0, 4),
            x -> x.temper(0, 1, 0, 5)};
        for (int i = 0; i < searches.length; i++) {
            QuarrelMiles x = Edges.after(Edges::busy);
            searches[i].on(x);
            x.shortest(0, 2);
            Edges.same("search " + i, Edges.tell(x), Edges.tell(Edges.after(Edges::busy)));
        }
    }
}
