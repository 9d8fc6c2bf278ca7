/** The edges of promises 1 to 7: the tape, the text and its faults, what a land tells. */
public final class LandEdgesTest {
    private static final int BLANKS = 0x20202020;
    private static final String AB = "place a;place b;";
    private static final String WAY = AB + "way a to b ";

    private static final String[] WORDS = {"place", "calm", "echo", "way", "to", "sight", "soul", "stubborn", "short",
        "matter", "burns", "of", "heat", "back", "draw", "or", "and", "not", "grief", "mile", "left"};

    public static void main(String[] args) throws IllegalAccessException {
        Edges.run(LandEdgesTest.class);
    }

    private static int feedBlanks(QuarrelMiles x, int times) {
        int bytes = x.about(11);
        for (int i = 0; i < times; i++) {
            bytes = x.feed(BLANKS, BLANKS, BLANKS, BLANKS, BLANKS);
        }
        return bytes;
    }

    // ==== Promise 1: a new object

    static void promise01NewObjectHasNothing() {
        int[] due = {0, 0, 0, 0, 0, 0, 0, -1, -1, 0, 0, 0, 0, 0};
        for (int i = 0; i < due.length; i++) {
            Checks.due("about(" + i + ")", new QuarrelMiles().about(i), due[i]);
        }
        Checks.due("NONE", QuarrelMiles.NONE, -1);
    }

    static void promise01NewObjectAnswersOfNothing() {
        QuarrelMiles x = new QuarrelMiles();
        long[] none = {x.soul(0, 0), x.way(0, 0), x.setOut(0, 1, 0, 0), x.take(0), x.words(0), x.year(), x.walk(0),
            x.start(0), x.step(0), x.shortest(0, 0), x.send(0, 0), x.measure(0, 1, 0, 0, false), x.adds(0, 0),
            x.home(0, 1, 0, 0, 0, 1), x.lies(0), x.report(0, 1, 0, 0), x.ask(0, 0), x.back(0), x.back(1), x.back(2)};
        for (int i = 0; i < none.length; i++) {
            Checks.due("NONE " + i, none[i], -1);
        }
        long[] cannot = {x.quarrel(0, 1, 0), x.heat(0, 1, 0, 0), x.walked(0, 1, 0, 0), x.loud(0, 1, 0, 0), x.temper(0, 1, 0, 1)};
        for (int i = 0; i < cannot.length; i++) {
            Checks.due("-2 " + i, cannot[i], -2);
        }
        long[] zero = {x.end(0), x.fair(), x.cover(), x.turned(), x.later(0), x.image(0), x.fault(0)};
        for (int i = 0; i < zero.length; i++) {
            Checks.due("0 " + i, zero[i], 0);
        }
        Checks.due("undo", x.undo(), false);
        Checks.due("redo", x.redo(), false);
        Checks.due("untell", x.untell(0), false);
        Checks.due("miles", x.miles(0), Edges.ALL_ROADS);
    }

    static void promise01NewObjectIsAsOneWithAnEmptyText() {
        QuarrelMiles x = new QuarrelMiles();
        Checks.due("land()", x.land(), 0);
        Edges.same("a new object", Edges.tell(new QuarrelMiles()), Edges.tell(x));
    }

    // ==== Promise 2: feed

    static void promise02FeedComesBehind() {
        QuarrelMiles x = new QuarrelMiles();
        for (int i = 1; i <= 3; i++) {
            Checks.due("feed " + i, x.feed(BLANKS, BLANKS, BLANKS, BLANKS, BLANKS), 20 * i);
        }
        Checks.due("end(33)", x.end(33), 33);
        Checks.due("feed behind 33", x.feed(BLANKS, BLANKS, BLANKS, BLANKS, BLANKS), 53);
    }

    /** Of twenty bytes one is none of a token: it is the fault's place. */
    static void promise02FeedTakesTheHighestByteFirst() {
        for (int place = 0; place < 20; place++) {
            for (int sign : new int[] {'@', 0, 127, 128, 255}) {
                int[] five = {BLANKS, BLANKS, BLANKS, BLANKS, BLANKS};
                int shift = 24 - 8 * (place % 4);
                five[place / 4] = five[place / 4] & ~(255 << shift) | sign << shift;
                QuarrelMiles x = new QuarrelMiles();
                x.feed(five[0], five[1], five[2], five[3], five[4]);
                Checks.due("land() with " + sign + " at " + place, x.land(), -1);
                Checks.due("its fault", x.fault(0), 1);
                Checks.due("its place", x.fault(1), place);
            }
        }
    }

    static void promise02FeedTakes1600Bytes() {
        QuarrelMiles x = new QuarrelMiles();
        Checks.due("79 feeds", feedBlanks(x, 79), 1580);
        Checks.due("feed to 1600", x.feed(BLANKS, BLANKS, BLANKS, BLANKS, BLANKS), 1600);
        Checks.due("about(11)", x.about(11), 1600);
    }

    static void promise02FeedTakesTheLastByte() {
        QuarrelMiles x = new QuarrelMiles();
        feedBlanks(x, 79);
        // "            place a;"
        x.feed(BLANKS, BLANKS, BLANKS, 0x706c6163, 0x6520613b);
        Checks.due("land()", x.land(), 1);
        feedBlanks(x, 79);
        x.feed(BLANKS, BLANKS, BLANKS, 0x706c6163, 0x65206120);
        Checks.due("land() without the last one", x.land(), -1);
        Checks.due("its place", x.fault(1), 1600);
    }

    static void promise02FeedIsRefusedAbove1600() {
        for (int bytes : new int[] {1581, 1599, 1600}) {
            Edges.refuses("feed behind " + bytes, x -> {
                feedBlanks(x, 80);
                x.end(bytes);
            }, x -> x.feed(0, 0, 0, 0, 0), -1);
        }
    }

    static void promise02FeedRefusedBringsNothing() {
        QuarrelMiles x = new QuarrelMiles();
        feedBlanks(x, 80);
        x.end(1585);
        Checks.due("feed behind 1585", x.feed(0, 0, 0, 0, 0), -1);
        Checks.due("about(11)", x.about(11), 1585);
        // What would have come is no token.
        Checks.due("land()", x.land(), 0);
    }

    // ==== Promise 3: end

    static void promise03EndTakesAllAndNothing() {
        QuarrelMiles x = new QuarrelMiles();
        Checks.due("end(0) of nothing", x.end(0), 0);
        feedBlanks(x, 2);
        Checks.due("end(40)", x.end(40), 40);
        Checks.due("end(39)", x.end(39), 39);
        Checks.due("end(1)", x.end(1), 1);
        Checks.due("end(0)", x.end(0), 0);
        Checks.due("about(11)", x.about(11), 0);
    }

    static void promise03EndIsRefusedForMoreThanThereAre() {
        Checks.due("end(1) of nothing", new QuarrelMiles().end(1), -1);
        // A busy one has 13 bytes on the tape.
        Checks.due("end(13)", Edges.after(Edges::busy).end(13), 13);
        Edges.refuses("end(14)", Edges::busy, x -> x.end(14), -1);
        Edges.refuses("end far", Edges::busy, x -> x.end(Edges.MAX), -1);
        QuarrelMiles x = new QuarrelMiles();
        feedBlanks(x, 80);
        Checks.due("end(1601)", x.end(1601), -1);
        Checks.due("end(1600)", x.end(1600), 1600);
        Checks.due("end(1599)", x.end(1599), 1599);
        Checks.due("end(1600) behind it", x.end(1600), -1);
    }

    static void promise03EndIsRefusedBelow0() {
        Edges.refuses("end(-1)", Edges::busy, x -> x.end(-1), -1);
        Edges.refuses("end far below", Edges::busy, x -> x.end(Edges.MIN), -1);
        Checks.due("end(-1) of nothing", new QuarrelMiles().end(-1), -1);
    }

    static void promise03EndKeepsTheFirstBytes() {
        int[] places = {-1, -1, 1, 1, -1};
        int[] ends = {1, 7, 8, 9, 10};
        for (int i = 0; i < ends.length; i++) {
            QuarrelMiles x = new QuarrelMiles();
            Checks.put(x, "place a; place b;");
            Checks.due("end", x.end(ends[i]), ends[i]);
            Checks.due("land() of " + ends[i] + " bytes", x.land(), places[i]);
        }
    }

    /** The first n bytes of a text have that FAULT at their end. */
    private static void cut(String text, int n) {
        QuarrelMiles x = new QuarrelMiles();
        Checks.put(x, text);
        Checks.due("end(" + n + ") of " + text, x.end(n), n);
        Checks.due("land() of " + n + " of " + text, x.land(), -1);
        Checks.due("its fault", x.fault(0), 2);
        Checks.due("its place", x.fault(1), n);
    }

    static void promise03EndCutsWhatStoodBehind() {
        // What is cut is no letter behind a number, no ninth letter, no fifth digit.
        cut("place a calm 1echo 2;", 14);
        cut("place abcdefghi;", 14);
        cut("heat 12345;", 9);
        cut("place a;", 7);
        cut("place a \n;", 9);
    }

    // ==== Promise 4: land

    static void promise04LandOfNothingIsEmpty() {
        QuarrelMiles x = Edges.after(Edges::busy);
        x.end(0);
        Checks.due("land()", x.land(), 0);
        int[] due = {0, 0, 0, 0, 0, 0, 0, -1, -1, 0, 8, 0, 0, 0};
        for (int i = 0; i < due.length; i++) {
            Checks.due("about(" + i + ")", x.about(i), due[i]);
        }
    }

    static void promise04LandTellsHowManyPlaces() {
        for (int n = 0; n <= 8; n++) {
            QuarrelMiles x = new QuarrelMiles();
            Checks.put(x, Edges.lines("place", "", n));
            Checks.due("land()", x.land(), n);
        }
    }

    static void promise04LandOfAsMuchAsCanBe() {
        QuarrelMiles x = new QuarrelMiles();
        Checks.put(x, Edges.full());
        Checks.due("land()", x.land(), 8);
        int[] due = {8, 14, 6, 6, 999, 0, 0, -1, -1, 0, 0, 0, 60, 0};
        for (int i = 0; i < due.length; i++) {
            Checks.due("about(" + i + ")", x.about(i), due[i]);
        }
    }

    static void promise04LandEmptiesTheTape() {
        QuarrelMiles x = new QuarrelMiles();
        Checks.put(x, "place a;");
        x.land();
        Checks.due("bytes behind a land", x.about(11), 0);
        Checks.due("end(1) behind a land", x.end(1), -1);
        Checks.put(x, "place a");
        x.land();
        Checks.due("bytes behind a fault", x.about(11), 0);
        Checks.due("end(1) behind a fault", x.end(1), -1);
        Checks.due("land() again", x.land(), 0);
    }

    static void promise04LandWithFaultLeavesAllElse() {
        for (String text : new String[] {"@", "place a;place a;", Edges.full() + "place", Checks.BASE + "draw 1000;", "heat 1;back"}) {
            QuarrelMiles x = Edges.after(Edges::busy);
            Checks.put(x, text);
            Checks.due("land() of " + text, x.land(), -1);
            // What is left there is the same fault by a text that tells nothing else.
            land(x, "place z;;");
            QuarrelMiles y = Edges.after(Edges::busy);
            y.end(0);
            Edges.same("land() of " + text, Edges.tell(x), Edges.tell(y));
        }
    }

    private static void land(QuarrelMiles x, String text) {
        Edges.land(x, text);
    }

    static void promise04LandWithFaultLeavesAllThatIsFound() {
        String other = Edges.lines("place", " calm 1 echo 2", 8) + "way a to c 1;way c to b 1 sight 3;way a to b 1;"
            + Edges.lines("soul", " stubborn 4 short 5", 6) + Edges.lines("matter", " burns 3 of 1 2", 6)
            + "heat heat - stubborn;back short;draw 5;";
        for (String text : new String[] {other + "@", "place a;@", "@", AB + "way b to a 40;" + Edges.TWO + "matter m burns 1 of 1;draw 1000;"}) {
            Edges.same("searches behind [" + text + "]", Edges.searches(x -> {
                land(x, Checks.BASE);
                x.start(0);
                land(x, text);
            }), Edges.searches(x -> {
                land(x, Checks.BASE);
                x.start(0);
            }));
        }
    }

    static void promise04LandBeginsAnewButForTheTime() {
        QuarrelMiles x = Edges.after(Edges::busy);
        land(x, Checks.BASE + "draw 1;");
        QuarrelMiles y = new QuarrelMiles();
        y.later(8);
        land(y, Checks.BASE + "draw 1;");
        Edges.same("land() of one that was busy", Edges.tell(x), Edges.tell(y));
    }

    static void promise04LandHasTempersAsTold() {
        QuarrelMiles x = Edges.after(Edges::busy);
        Checks.due("seed of a busy one", x.about(4), 208);
        Checks.due("stubborn of a busy one", x.soul(0, 0), 3);
        land(x, Checks.BASE + "draw 1;");
        Checks.due("seed", x.about(4), 1);
        Checks.due("stubborn", x.soul(0, 0), 2);
        Checks.due("short", x.soul(1, 1), 3);
    }

    static void promise04LandHasNobodyWalkAndNoActs() {
        QuarrelMiles x = Edges.after(Edges::busy);
        land(x, Checks.BASE);
        Checks.due("walk(0)", x.walk(0), -1);
        Checks.due("words(0)", x.words(0), -1);
        Checks.due("take(0)", x.take(0), -1);
        Checks.due("undo", x.undo(), false);
        Checks.due("redo", x.redo(), false);
        Checks.due("about(5)", x.about(5), 0);
        Checks.due("about(6)", x.about(6), 0);
    }

    static void promise04LandHasNoRouteNoReportsNothingLying() {
        QuarrelMiles x = Edges.after(Edges::busy);
        land(x, Checks.BASE);
        Checks.due("step", x.step(0), -1);
        Checks.due("walked", x.walked(0, 1, 0, 3), -2);
        Checks.due("about(7)", x.about(7), -1);
        Checks.due("about(8)", x.about(8), -1);
        Checks.due("about(9)", x.about(9), 0);
        Checks.due("untell(1)", x.untell(1), false);
        Checks.due("miles(8)", x.miles(8), Edges.ALL_ROADS);
        Checks.due("report", x.report(0, 1, 0, 0), 0);
        Checks.due("untell(1) behind one report", x.untell(1), false);
        Checks.lying("land()", x);
    }

    /** The places of what was told ahead are used again. */
    static void promise04LandLeavesNothingOfTheOneAhead() {
        String people = Edges.TWO + "matter m burns 50 of 1 1;";
        QuarrelMiles x = new QuarrelMiles();
        land(x, "place a calm 9 echo 9;place b calm 9 echo 9;way a to b 1 sight 9;" + Edges.TWO + "matter m burns 9 of 9 9 9;"
            + "heat 77;back 7;draw 7;");
        land(x, AB + "way a to b 1;" + people);
        Checks.due("seed", x.about(4), 0);
        Checks.due("units", x.about(12), 0);
        Checks.due("quarrel", x.quarrel(0, 1, 0), 2);
        Checks.due("heat", x.heat(0, 1, 0, 1), 49);
        x.setOut(0, 1, 0, 0);
        x.take(0);
        x.words(1);
        Checks.due("heat behind a way", x.walk(4), 49);
        Checks.due("griefs behind a way", x.walk(5), 1);
        // A text that has a fault is tried as well.
        land(x, "place a calm 9 echo 9;heat 77;back 7;draw 7;@");
        land(x, AB + "way a to b 1;" + people);
        Checks.due("seed behind a fault", x.about(4), 0);
        Checks.due("units behind a fault", x.about(12), 0);
        Checks.due("heat behind a fault", x.heat(0, 1, 0, 1), 49);
    }

    static void promise04LandLeavesNothingOfALargerOne() {
        String large = Edges.lines("place", " calm 1 echo 2", 8) + "way a to c 1;way c to b 1 sight 3;way a to b 1;"
            + Edges.times("way c to a 1;", 11) + Edges.lines("soul", " stubborn 4 short 5", 6)
            + Edges.lines("matter", " burns 3 of 1 2", 6) + "heat heat - stubborn;back short;draw 5;";
        for (String small : new String[] {"place a;place b;place c;way a to b 2;way b to c 3;" + Edges.TWO + "matter m burns 2 of 1 1 1;",
            AB + Edges.TWO + "matter m burns 2 of 1;", "place a;place b;place c;way b to c 1;", ""}) {
            Edges.same("[" + small + "] behind a larger one", Edges.searches(x -> {
                land(x, large);
                land(x, small);
            }), Edges.searches(x -> land(x, small)));
        }
    }

    static void promise04LandHasEmptyBoxes() {
        QuarrelMiles x = Edges.after(Edges::busy);
        Checks.due("back(0) of a busy one", x.back(0), 1);
        land(x, Checks.BASE);
        for (int box = 0; box < 3; box++) {
            Checks.due("back(" + box + ")", x.back(box), -1);
        }
    }

    static void promise04LandLeavesTheTime() {
        QuarrelMiles x = Edges.after(Edges::busy);
        land(x, "");
        Checks.due("about(10)", x.about(10), 8);
        Checks.due("later(0)", x.later(0), 8);
    }

    // ==== Promise 5: fault, and the LAND's terms

    static void promise05FaultAheadOfAnyAndBehindNone() {
        QuarrelMiles x = new QuarrelMiles();
        Checks.due("fault(0) ahead of any", x.fault(0), 0);
        Checks.due("fault(1) ahead of any", x.fault(1), -1);
        land(x, "");
        Checks.due("fault(0) of nothing", x.fault(0), 0);
        Checks.due("fault(1) of nothing", x.fault(1), -1);
    }

    static void promise05FaultIsOfTheLatestLand() {
        QuarrelMiles x = new QuarrelMiles();
        land(x, "@");
        Checks.due("fault(0)", x.fault(0), 1);
        Checks.due("fault(1)", x.fault(1), 0);
        land(x, " ;");
        Checks.due("fault(0) of the second", x.fault(0), 2);
        Checks.due("fault(1) of the second", x.fault(1), 1);
        land(x, "place a;");
        Checks.due("fault(0) of the third", x.fault(0), 0);
        Checks.due("fault(1) of the third", x.fault(1), -1);
    }

    static void promise05FaultOfAnotherWhat() {
        for (int what : new int[] {-1, 2, Edges.MIN, Edges.MAX}) {
            Checks.due("fault(" + what + ") behind none", new QuarrelMiles().fault(what), -1);
            Checks.due("fault(" + what + ") behind one", Edges.after(Edges::busy).fault(what), -1);
        }
    }

    static void promise05Tokens1WordsOf8LettersAtMost() {
        Edges.fine("place a;place abcdefgh;");
        Edges.fault(1, "place ^abcdefghi;");
        Edges.fault(1, "place ^zzzzzzzzzzzzzzzzzzzz;");
        Edges.fault(1, "^abcdefghi");
        Edges.fault(2, "^abcdefgh");
    }

    static void promise05Tokens1NumbersOf1To4Digits() {
        Edges.fine("heat 0;back 9999;");
        Edges.fine("draw 0999;");
        Edges.fault(1, "heat ^10000;");
        Edges.fault(1, "draw ^00000;");
        Edges.fault(1, "heat ^12345678901234567890;");
        Edges.fault(1, "^12345");
        Edges.fault(2, "^1234");
    }

    static void promise05Tokens1BlanksAre32And10() {
        Edges.fine(" \nplace \n a \n; \n");
        for (int sign = 0; sign < 256; sign++) {
            boolean isToken = sign >= 'a' && sign <= 'z' || sign >= '0' && sign <= '9' || ";()<>=+-*/%".indexOf(sign) >= 0;
            if (sign != 32 && sign != 10) {
                Edges.fault(isToken ? 2 : 1, "place a;^" + (char) sign);
            }
        }
    }

    static void promise05Tokens1BlanksPartThemOrNot() {
        Edges.fine("place a calm1 echo2;place b;way a to b1 sight-1;soul p stubborn1 short2;matter m burns1 of 1 2;");
        Edges.fine("heat(heat)-1;back heat<1 and(not mile=left or 3>left)*grief/2%3;draw7;");
        Edges.fine("heat\n(\nheat\n)\n-\n1\n;\nback not\nheat\n<\n1\n;draw\n7\n;");
        // Two words, or two numbers, are one without a blank.
        Edges.fault(2, "^placea;");
        Edges.fault(2, "matter m ^burnsof 1;");
        Edges.fault(4, "matter m burns 1 of ^12;");
        Edges.fault(2, "place a ^cal m 1;");
    }

    static void promise05Tokens1NoLetterDirectlyBehindANumber() {
        Edges.fault(1, "place a calm ^1a;");
        Edges.fault(1, "place a calm ^1z;");
        Edges.fault(1, "place a calm ^1echo 2;");
        Edges.fault(1, "place a calm ^1234a;");
        Edges.fault(1, "place a calm ^12345a;");
        // These are no letters: the number stands, and what is behind it is none.
        Edges.fault(1, "place a calm 1^`;");
        Edges.fault(1, "place a calm 1^{;");
        Edges.fault(1, "place a calm 1^A;");
        Edges.fault(1, "place a calm 1^:;");
        Edges.fine("place a calm 1 echo 2;");
        Edges.fine("place a calm 1\necho 2;");
    }

    static void promise05Names2WordsThatStandForThemselves() {
        for (String word : WORDS) {
            Edges.fault(2, "place ^" + word + ";");
            Edges.fault(2, "soul ^" + word + " stubborn 1 short 1;");
            Edges.fault(2, "matter ^" + word + " burns 1 of 1;");
            Edges.fault(2, AB + "way ^" + word + " to b 1;");
            Edges.fault(2, AB + "way a to ^" + word + " 1;");
        }
    }

    static void promise05Names2WordsThatAreNearlyOne() {
        for (String word : WORDS) {
            if (word.length() < 8) {
                Edges.fine("place " + word + "x;place x" + word + ";");
            }
            Edges.fine("place " + word.substring(1) + ";soul " + word.substring(0, word.length() - 1) + "q stubborn 1 short 1;");
        }
        // Words of the document that tell no text stand for nothing.
        for (String word : new String[] {"e", "n", "v", "name", "both", "one", "sum", "term", "unit", "line", "land", "seed"}) {
            Edges.fine("place " + word + ";");
        }
    }

    static void promise05Sorts2EightPlaces() {
        Edges.fine(Edges.lines("place", "", 8));
        Edges.fault(2, Edges.lines("place", "", 8) + "^place i;");
        Edges.fault(2, Edges.lines("place", "", 8) + "^place a calm 10;");
        Edges.fault(2, Edges.lines("place", "", 8) + "^place");
    }

    static void promise05Sorts2FourteenWays() {
        String ways = AB + Edges.times("way a to b 1;", 14);
        Edges.fine(ways);
        Edges.fault(2, ways + "^way a to b 1;");
        Edges.fault(2, ways + "place c;^way a to a 0;");
        Edges.fault(2, ways + "^way");
    }

    static void promise05Sorts2SixSouls() {
        String souls = Edges.lines("soul", " stubborn 1 short 1", 6);
        Edges.fine(souls);
        Edges.fault(2, souls + "^soul g stubborn 1 short 1;");
        Edges.fault(2, souls + "^soul a stubborn 10 short 1;");
        Edges.fault(2, souls + "^soul");
    }

    static void promise05Sorts2SixMatters() {
        String matters = Edges.lines("matter", " burns 1 of 1", 6);
        Edges.fine(matters);
        Edges.fault(2, matters + "^matter g burns 1 of 1;");
        Edges.fault(2, matters + "^matter a burns 0 of 1;");
        Edges.fault(2, matters + "^matter");
    }

    static void promise05Sorts2HeatBackDrawOnceEach() {
        Edges.fine("heat 1;back 1;draw 1;");
        Edges.fine("draw 0;heat 0;back 0;");
        Edges.fault(2, "heat 1;^heat 1;");
        Edges.fault(2, "back 1;^back 1;");
        Edges.fault(2, "draw 1;^draw 1;");
        Edges.fault(2, "draw 0;^draw 1000;");
        Edges.fault(2, "heat 1;back 1;draw 1;place a;^heat 12345;");
        Edges.fault(2, "back 0;heat 0;^back");
    }

    static void promise05Sorts2EightGriefs() {
        Edges.fine("matter m burns 1 of 1;");
        Edges.fine("matter m burns 1 of 1 2 3 4 5 6 7 8;");
        Edges.fault(2, "matter m burns 1 of ^;");
        Edges.fault(2, "matter m burns 1 of 1 2 3 4 5 6 7 8 ^9;");
    }

    static void promise05Numbers4CalmAndEchoOf0To9() {
        Edges.fine("place a calm 0;place b calm 9;place c echo 0;place d echo 9;place e calm 9 echo 9;");
        Edges.fault(4, "place a calm ^10;");
        Edges.fault(4, "place a echo ^10;");
        Edges.fault(4, "place a calm ^9999 echo 1;");
        Edges.fault(2, "place a calm ^-1;");
    }

    static void promise05Numbers4MilesOf1To40() {
        Edges.fine(WAY + "1;way a to b 40;");
        Edges.fault(4, WAY + "^0;");
        Edges.fault(4, WAY + "^41;");
        Edges.fault(2, WAY + "^-1;");
    }

    static void promise05Numbers4SightOfLess9To9() {
        Edges.fine(WAY + "1 sight 9;way a to b 1 sight -9;way a to b 1 sight 0;way a to b 1 sight -0;");
        Edges.fault(4, WAY + "1 sight ^10;");
        Edges.fault(4, WAY + "1 sight ^-10;");
        Edges.fault(4, WAY + "1 sight ^- 9999;");
        Edges.fault(1, WAY + "1 sight -^10000;");
        Edges.fault(2, WAY + "1 sight -^-1;");
        Edges.fault(2, WAY + "1 sight ^+1;");
        Edges.fault(2, WAY + "1 sight -^;");
    }

    static void promise05Numbers4TempersOf0To9() {
        Edges.fine("soul p stubborn 0 short 0;soul q stubborn 9 short 9;");
        Edges.fault(4, "soul p stubborn ^10 short 1;");
        Edges.fault(4, "soul p stubborn 1 short ^10;");
    }

    static void promise05Numbers4BurnsOf1To99() {
        Edges.fine("matter m burns 1 of 1;matter n burns 99 of 1;");
        Edges.fault(4, "matter m burns ^0 of 1;");
        Edges.fault(4, "matter m burns ^100 of 1;");
    }

    static void promise05Numbers4GriefsOf1To9() {
        Edges.fine("matter m burns 1 of 1 9 1;");
        Edges.fault(4, "matter m burns 1 of ^0;");
        Edges.fault(4, "matter m burns 1 of ^10;");
        Edges.fault(4, "matter m burns 1 of 1 ^0;");
        Edges.fault(4, "matter m burns 1 of 1 1 1 1 1 1 1 ^10;");
    }

    static void promise05Numbers4DrawOf0To999() {
        Edges.fine("draw 0;");
        Edges.fine("draw 999;");
        Edges.fault(4, "draw ^1000;");
    }

    static void promise05Names3OfItsSort() {
        Edges.fault(3, "place a;place ^a;");
        Edges.fault(3, Edges.lines("place", "", 7) + "place ^a;");
        Edges.fault(3, Edges.lines("place", "", 7) + "place ^g;");
        Edges.fault(3, Edges.lines("soul", " stubborn 1 short 1", 5) + "soul ^e stubborn 1 short 1;");
        Edges.fault(3, Edges.lines("matter", " burns 1 of 1", 5) + "matter ^e burns 1 of 1;");
        Edges.fine("place a;soul a stubborn 1 short 1;matter a burns 1 of 1;");
        // Another NAME differs in a letter, or is longer.
        Edges.fine("place abcdefgh;place bbcdefgh;place abcdefgi;place abcdefg;place a;place aa;place aaa;");
    }

    static void promise05Names3SecondOfAWayIfItIsTheFirst() {
        Edges.fault(3, WAY.substring(0, WAY.length() - 2) + "^a 1;");
        Edges.fault(3, AB + "way b to ^b 1;");
        Edges.fault(5, AB + "way ^c to c 1;");
        Edges.fine(AB + "way a to b 1;way b to a 1;");
    }

    static void promise05Names5NoPlaceHas() {
        Edges.fault(5, AB + "way ^c to a 1;");
        Edges.fault(5, AB + "way a to ^c 1;");
        Edges.fault(5, "way ^a to b 1;" + AB);
        Edges.fault(5, "place a;way a to ^b 1;place b;");
        Edges.fault(5, AB + "soul c stubborn 1 short 1;way ^c to a 1;");
        Edges.fault(5, AB + "matter c burns 1 of 1;way a to ^c 1;");
        String places = Edges.lines("place", "", 8);
        Edges.fine(places + "way a to h 1;way h to a 1;");
        Edges.fault(5, places + "way a to ^i 1;");
    }

    static void promise05Units2ThirtyInOneRule() {
        String thirty = "1" + Edges.times("+1", 29);
        Checks.due("units", Checks.land("heat " + thirty + ";").about(12), 30);
        Edges.fault(2, "heat " + thirty + "+^1;");
        Edges.fault(2, "back " + thirty + "+^(1);");
        Edges.fault(2, "heat 1;back " + thirty + " or ^left;");
        Edges.fault(2, "heat " + thirty + " and not ^1;");
        // A unit is too many at its first token though it is none that ends.
        Edges.fault(2, "heat " + thirty + "+^(@;");
    }

    static void promise05Units2BracketsAreUnits() {
        Checks.due("units of a bracket", Checks.land("heat (1);").about(12), 2);
        Checks.due("units of brackets", Checks.land("heat ((1)+(2));").about(12), 5);
        Checks.due("units of nots", Checks.land("heat not not 1;").about(12), 1);
        String thirty = "(1)" + Edges.times("+(1)", 14);
        Edges.fine("heat " + thirty + ";");
        Edges.fault(2, "heat " + thirty + "+^1;");
        Edges.fault(2, "heat 1" + Edges.times("+(1)", 14) + "+(^1);");
    }

    static void promise05Units2SixtyInAll() {
        String thirty = "1" + Edges.times("+1", 29);
        Checks.due("units", Checks.land("heat " + thirty + ";back " + thirty + ";").about(12), 60);
        Edges.fault(2, "heat " + thirty + ";back " + thirty + "+^1;");
    }

    static void promise05Depth2BracketsWithin6Others() {
        Edges.fine("heat " + Edges.times("(", 7) + "1" + Edges.times(")", 7) + ";");
        Edges.fault(2, "heat " + Edges.times("(", 7) + "^(1" + Edges.times(")", 8) + ";");
        Edges.fault(2, "back 1+" + Edges.times("(", 7) + "1<^(1" + Edges.times(")", 8) + ";");
    }

    static void promise05Depth2OnesBehindNotWithin6Others() {
        Edges.fine("heat " + Edges.times("not ", 7) + "1;");
        Edges.fault(2, "heat " + Edges.times("not ", 7) + "^not 1;");
        Edges.fault(2, "heat " + Edges.times("not ", 7) + "^(1);");
        Edges.fault(2, "heat " + Edges.times("(", 7) + "^not 1;");
        Edges.fine("heat " + Edges.times("not(", 3) + "not 1" + Edges.times(")", 3) + ";");
        Edges.fine("heat " + Edges.times("(not ", 3) + "(1" + Edges.times(")", 4) + ";");
        Edges.fault(2, "heat " + Edges.times("not(", 3) + "not ^(1);");
        Edges.fault(2, "heat " + Edges.times("(not ", 3) + "(^not 1);");
    }

    static void promise05Depth2OnesBesideOneAnotherAreNotWithin() {
        String seven = Edges.times("(", 7) + "1" + Edges.times(")", 7);
        Edges.fine("heat " + seven + "+" + seven + "*" + seven + ";");
        Edges.fine("heat " + Edges.times("not ", 7) + "1 and " + Edges.times("not ", 7) + "1 or " + seven + ";");
        Edges.fine("heat not 1" + Edges.times(" and not 1", 20) + ";");
        // What is compared is one with what it is compared with.
        Edges.fault(2, "heat " + Edges.times("not ", 7) + "1 < ^(1);");
        Edges.fault(2, "heat " + Edges.times("not ", 7) + "1 + 1 * ^(1);");
        Edges.fine("heat " + Edges.times("not ", 6) + "1 < (1);");
    }

    static void promise05Faults2OneRelationInOne() {
        Edges.fine("heat 1 < 2 and 1 > 2 or 1 = 2;");
        for (String sign : new String[] {"<", ">", "="}) {
            Edges.fault(2, "heat 1 < 2 ^" + sign + " 3;");
            Edges.fault(2, "heat not 1 = 2 ^" + sign + " 3;");
            Edges.fault(2, "heat (1 > 2 ^" + sign + " 3);");
            Edges.fine("heat (1 < 2) " + sign + " (3 > 4);");
        }
    }

    static void promise05Faults2FormulaThatEndsEarly() {
        for (String rule : new String[] {"heat", "back"}) {
            Edges.fault(2, rule + " ^;");
            Edges.fault(2, rule + " 1 + ^;");
            Edges.fault(2, rule + " not ^;");
            Edges.fault(2, rule + " (^);");
            Edges.fault(2, rule + " (1^;");
            Edges.fault(2, rule + " 1^);");
            Edges.fault(2, rule + " 1 + 2^);");
            Edges.fault(2, rule + " not 1^);");
            Edges.fault(2, rule + " not 1 < 2 * (3)^);");
            Edges.fault(2, rule + " 1 < ^;");
            Edges.fault(2, rule + " 1 and ^;");
            Edges.fault(2, rule + " 1 ^1;");
            Edges.fault(2, rule + " ^- 1;");
        }
    }

    /** What stood open in a formula that had a fault does not stand open in the next one. */
    static void promise05FaultsInAFormulaLeaveNothing() {
        String[] broken = {"heat " + Edges.times("(", 7) + "1 + @", "heat " + Edges.times("not ", 7) + "1 < @",
            "back 1 or 2 and not 3 < 4 - 5 * (6;", "heat 1" + Edges.times("+1", 30) + ";", "heat (not (1 = 2 = 3));"};
        for (String text : broken) {
            QuarrelMiles x = new QuarrelMiles();
            land(x, text);
            Checks.due("fault of " + text, x.fault(0) > 0, true);
            land(x, Edges.TWO + "matter m burns 50 of 1 1;heat (2) + 3 * 4;back " + Edges.times("(", 7) + "1" + Edges.times(")", 7) + ";");
            Checks.due("fault behind " + text, x.fault(0), 0);
            Checks.due("units behind " + text, x.about(12), 12);
            Checks.due("heat behind " + text, x.heat(0, 1, 0, 1), 14);
        }
    }

    static void promise05FaultsInAFormulaLeaveNoOperator() {
        // What waited for its right side when the fault came must not wait in the next formula.
        for (String waiting : new String[] {"1 <", "1 >", "1 =", "not", "not 1 <", "1 or 2 and not 3 = 4 + 5 *", "(1 < (2 >"}) {
            for (String sound : new String[] {"mile < 2", "mile > 1", "1 = 1", "not mile < 2", "(mile < 2) + (1 < mile)"}) {
                QuarrelMiles x = new QuarrelMiles();
                land(x, "heat " + waiting + " @;");
                Checks.due("fault of " + waiting, x.fault(0), 1);
                land(x, Edges.TWO + "matter m burns 50 of 1 1;heat " + sound + ";");
                Checks.due("fault of " + sound + " behind " + waiting, x.fault(0), 0);
                Checks.due("heat by " + sound, x.heat(0, 1, 0, 1), "mile > 1".equals(sound) || sound.startsWith("not") ? 0 : 1);
            }
        }
    }

    static void promise05FaultsTheEndIsTheTextsLength() {
        Edges.fault(2, "place a^");
        Edges.fault(2, "place a \n ^");
        Edges.fault(2, "place^");
        Edges.fault(2, "place a;heat^");
        Edges.fault(2, "heat (1^");
        Edges.fault(2, "heat not^");
        Edges.fault(2, WAY + "1 sight -^");
        Edges.fault(2, "matter m burns 1 of 1 2 3 4 5 6 7 8^");
        Edges.fault(2, "place a" + Edges.times(" ", 1593) + "^");
        Edges.fine("place a; \n");
    }

    static void promise05FaultsTheFirstByItsPlace() {
        Edges.fault(4, "place a calm ^10 @");
        Edges.fault(1, "place ^@ place a;place a;");
        Edges.fault(2, "place a ^a;place a;");
        Edges.fault(5, "way ^a to b 41 sight 10;");
        Edges.fault(3, AB + "way a to ^a 41 sight 10;");
        Edges.fault(4, WAY + "^41 sight 10;");
        Edges.fault(4, WAY + "1 sight ^-10 12345");
        Edges.fault(4, "soul p stubborn ^10 short 12345;");
        Edges.fault(3, "place a;place ^a calm 10;");
    }

    static void promise05FaultsAtOnePlaceTheLeast() {
        // No token, and none could stand there.
        Edges.fault(1, "place a;^12345");
        Edges.fault(1, "place ^abcdefghi;");
        Edges.fault(1, "matter m burns 1 of 1 2 3 4 5 6 7 8 ^10000;");
        Edges.fault(1, "heat 1" + Edges.times("+1", 29) + "+^12345;");
        // It can't stand there, and can't be.
        Edges.fault(2, "matter m burns 1 of 1 2 3 4 5 6 7 8 ^0;");
        Edges.fault(2, "matter m burns 1 of 1 2 3 4 5 6 7 8 ^10;");
        Edges.fault(2, "place a calm 1 ^10;");
    }

    /** A text that is cut at any byte is as the model of the document has it. */
    static void promise05FaultsOfATextThatIsCut() {
        String text = "place a calm 1 echo 2;place b;way a to b 40 sight -9;soul p stubborn 1 short 2;matter m burns 9 of 1 2;"
            + "heat not(heat<1)and 2 or left*2%3;back grief-1;draw 999;";
        for (int n = 0; n <= text.length(); n++) {
            QuarrelMiles x = new QuarrelMiles();
            Model m = new Model();
            for (int i = 0; i < text.length(); i += 20) {
                int[] five = new int[5];
                for (int k = 0; k < 20; k++) {
                    five[k / 4] = five[k / 4] << 8 | (i + k < text.length() ? text.charAt(i + k) : ' ');
                }
                x.feed(five[0], five[1], five[2], five[3], five[4]);
                m.feed(five[0], five[1], five[2], five[3], five[4]);
            }
            Checks.due("end(" + n + ")", x.end(n), m.end(n));
            Checks.due("land() of " + n + " bytes", x.land(), m.land());
            Checks.due("fault(0) of " + n + " bytes", x.fault(0), m.fault(0));
            Checks.due("fault(1) of " + n + " bytes", x.fault(1), m.fault(1));
        }
    }

    // ==== Promise 6: soul

    static void promise06SoulFirstAndLast() {
        QuarrelMiles x = Checks.land("soul a stubborn 0 short 9;soul b stubborn 1 short 8;soul c stubborn 2 short 7;"
            + "soul d stubborn 3 short 6;soul e stubborn 4 short 5;soul f stubborn 9 short 0;");
        int[] due = {0, 9, 1, 8, 2, 7, 3, 6, 4, 5, 9, 0};
        for (int i = 0; i < due.length; i++) {
            Checks.due("soul(" + i / 2 + ", " + i % 2 + ")", x.soul(i / 2, i % 2), due[i]);
        }
    }

    static void promise06SoulNoneSuch() {
        for (int n = 0; n <= 6; n++) {
            QuarrelMiles x = Checks.land(Edges.lines("soul", " stubborn 1 short 1", n));
            for (int soul : new int[] {-1, n, 6, Edges.MIN, Edges.MAX, 1 << 30}) {
                Checks.due("soul(" + soul + ", 0) of " + n, x.soul(soul, 0), -1);
                Checks.due("soul(" + soul + ", 1) of " + n, x.soul(soul, 1), -1);
            }
        }
    }

    static void promise06SoulAnotherWhat() {
        QuarrelMiles x = Checks.land(Edges.lines("soul", " stubborn 1 short 1", 3));
        for (int what : new int[] {-1, 2, 3, Edges.MIN, Edges.MAX}) {
            for (int soul = 0; soul < 3; soul++) {
                Checks.due("soul(" + soul + ", " + what + ")", x.soul(soul, what), -1);
            }
        }
    }

    // ==== Promise 7: way

    static void promise07WayFirstAndLast() {
        QuarrelMiles x = Checks.land("place a;place b;place c;way b to c 40;" + Edges.times("way a to b 2;", 12) + "way c to a 1;");
        int[] first = {1, 2, 40};
        int[] last = {2, 0, 1};
        for (int what = 0; what < 3; what++) {
            Checks.due("way(0, " + what + ")", x.way(0, what), first[what]);
            Checks.due("way(13, " + what + ")", x.way(13, what), last[what]);
        }
    }

    static void promise07WayNoneSuch() {
        for (int n = 0; n <= 14; n++) {
            QuarrelMiles x = Checks.land(AB + Edges.times("way a to b 1;", n));
            for (int way : new int[] {-1, n, 14, Edges.MIN, Edges.MAX}) {
                Checks.due("way(" + way + ", 2) of " + n, x.way(way, 2), -1);
            }
        }
    }

    static void promise07WayAnotherWhat() {
        QuarrelMiles x = Checks.land(WAY + "1;way a to b 2;");
        for (int what : new int[] {-1, 3, 4, Edges.MIN, Edges.MAX}) {
            Checks.due("way(0, " + what + ")", x.way(0, what), -1);
            Checks.due("way(1, " + what + ")", x.way(1, what), -1);
        }
    }

    static void promise07NumbersAreOfEachSortByItself() {
        QuarrelMiles x = Checks.land("soul p stubborn 1 short 2;place a;matter m burns 3 of 1;place b;soul q stubborn 4 short 5;"
            + "way b to a 6;place c;way c to b 7;");
        Checks.due("soul(1, 0)", x.soul(1, 0), 4);
        Checks.due("way(0, 0)", x.way(0, 0), 1);
        Checks.due("way(1, 0)", x.way(1, 0), 2);
        Checks.due("way(1, 2)", x.way(1, 2), 7);
        Checks.due("heat", x.heat(0, 1, 0, 0), 3);
    }
}
