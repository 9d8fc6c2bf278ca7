/** Promises 2 to 7 and 38: the tape, the text and its faults, what a text tells. */
public final class LandTextTest {
    private static final String TWO = "place a;place b;";

    public static void main(String[] args) {
        tape();
        tokens();
        standing();
        names();
        numbers();
        formulas();
        limits();
        ends();
        landing();
        anew();
        told();
        Checks.close();
    }

    /** The fault stands where the sign ^ does. */
    private static void fault(int what, String marked) {
        int place = marked.indexOf('^');
        String text = marked.substring(0, place) + marked.substring(place + 1);
        QuarrelMiles x = new QuarrelMiles();
        Checks.put(x, text);
        Checks.due("land() of [" + marked + "]", x.land(), -1);
        Checks.due("fault(0) of [" + marked + "]", x.fault(0), what);
        Checks.due("fault(1) of [" + marked + "]", x.fault(1), place);
        Checks.due("about(11) of [" + marked + "]", x.about(11), 0);
    }

    private static void fine(String text) {
        Checks.land(text);
    }

    private static String times(String text, int n) {
        return text.repeat(n);
    }

    private static void tape() {
        Checks.part("promises 2, 3");
        QuarrelMiles x = new QuarrelMiles();
        Checks.due("end(0)", x.end(0), 0);
        Checks.due("end(1)", x.end(1), -1);
        Checks.due("end(-1)", x.end(-1), -1);
        for (int i = 1; i <= 80; i++) {
            Checks.due("feed " + i, x.feed(0x20202020, 0x20202020, 0x20202020, 0x20202020, 0x20202020), 20 * i);
        }
        Checks.due("feed 81", x.feed(0, 0, 0, 0, 0), -1);
        Checks.due("about(11)", x.about(11), 1600);
        Checks.due("end(1601)", x.end(1601), -1);
        Checks.due("end(1600)", x.end(1600), 1600);
        Checks.due("end(1599)", x.end(1599), 1599);
        Checks.due("feed behind 1599", x.feed(0, 0, 0, 0, 0), -1);
        Checks.due("end(1581)", x.end(1581), 1581);
        Checks.due("feed behind 1581", x.feed(0, 0, 0, 0, 0), -1);
        Checks.due("end(1580)", x.end(1580), 1580);
        Checks.due("feed behind 1580", x.feed(0x20202020, 0x20202020, 0x20202020, 0x20202020, 0x20202020), 1600);
        Checks.due("land of blanks", x.land(), 0);
        Checks.due("fault of blanks", x.fault(0), 0);
        Checks.due("tape behind land", x.about(11), 0);
        Checks.due("end(1) behind land", x.end(1), -1);
        // The highest byte of each number first.
        x.feed(('p' << 24) + ('l' << 16) + ('a' << 8) + 'c', ('e' << 24) + (' ' << 16) + ('a' << 8) + ';', 0, 0, 0);
        x.end(8);
        Checks.due("land of place a;", x.land(), 1);
    }

    private static void tokens() {
        Checks.part("faults 1");
        fault(1, "^A");
        fault(1, "place ^_;");
        fault(1, "^\tplace a;");
        fault(1, "place a;^\r");
        fault(1, "place ^\u00e9;");
        fault(1, "^" + (char) 0);
        fault(1, "place ^abcdefghi;");
        fine("place abcdefgh;");
        fault(1, "place ^stubbornn;");
        fault(1, "place a calm ^12345;");
        fault(1, "place a calm ^00001;");
        fine("place a calm 0001;");
        fault(1, "place a calm ^1echo 2;");
        fault(1, "place a calm ^1x;");
        fault(1, "place a calm ^12345x;");
        fault(4, "place a calm ^12X;");
        fault(1, "place a calm 1^X;");
        fine("place\na\ncalm\n1\necho2;place b;");
        fine("place a calm1 echo2;");
        fault(1, TWO + "way a to b ^3sight 1;");
        fine("heat(heat)-1;");
        fine("back grief-1;draw7;");
        fault(1, "heat 1 ^& 1;");
        fault(1, "heat 1 ^! 1;");
        // A word is as long as can be, so no keyword is found in a longer one.
        fault(2, "^placea;");
        fine("soul ab stubborn1 short2;");
    }

    private static void standing() {
        Checks.part("faults 2");
        fault(2, "^;");
        fault(2, "^a;");
        fault(2, "^1;");
        fault(2, "^calm 1;");
        fault(2, "^to;");
        fault(2, "place ^;");
        fault(2, "place ^1;");
        fault(2, "place ^calm;");
        fault(2, "place ^place;");
        fault(2, "place ^left;");
        fault(2, "place ^of;");
        fault(2, "soul ^heat stubborn 1 short 1;");
        fault(2, "matter ^draw burns 1 of 1;");
        fault(2, "place a ^b;");
        fault(2, "place a ^1;");
        fault(2, "place a calm ^echo 1;");
        fault(2, "place a echo 1 ^calm 1;");
        fault(2, "place a calm 1 ^calm 1;");
        fault(2, "place a calm ^- 1;");
        fault(2, "place a ^place b;");
        fault(2, TWO + "way a ^b 1;");
        fault(2, TWO + "way ^to to b 1;");
        fault(2, TWO + "way a to ^to 1;");
        fault(2, TWO + "way a to b ^;");
        fault(2, TWO + "way a to b ^sight 1;");
        fault(2, TWO + "way a to b 1 ^- 1;");
        fault(2, TWO + "way a to b 1 sight ^;");
        fault(2, TWO + "way a to b 1 sight - ^;");
        fault(2, TWO + "way a to b 1 sight - ^- 1;");
        fault(2, TWO + "way a to b 1 sight ^+ 1;");
        fault(2, TWO + "way a to b 1 sight 1 ^1;");
        fault(2, "soul p ^short 1;");
        fault(2, "soul p stubborn 1 ^;");
        fault(2, "soul p stubborn 1 short 1 ^1;");
        fault(2, "matter m ^of 1;");
        fault(2, "matter m burns 1 of ^;");
        fault(2, "matter m burns 1 of 1 ^- 1;");
        fault(2, "draw ^;");
        fault(2, "draw ^- 1;");
        fault(2, "draw 1;^draw 2;");
        fault(2, "heat 1;^heat 1;");
        fault(2, "back 1;place a;^back 1;");
        // A line that is one too many is so at its first word, whatever stands behind it.
        fault(2, "draw 1;^draw 12345;");
        fault(2, "heat 1;^heat @;");
    }

    private static void names() {
        Checks.part("faults 3, 5");
        fault(3, "place a;place ^a;");
        fault(3, "place a;place ^a");
        fault(3, "place a;place b;place ^a calm 99;");
        fault(3, "soul p stubborn 1 short 1;soul ^p stubborn 1 short 1;");
        fault(3, "matter m burns 1 of 1;matter ^m burns 1 of 1;");
        fine("place a;soul a stubborn 1 short 1;matter a burns 1 of 1;");
        fault(3, TWO + "way a to ^a 1;");
        fault(3, TWO + "way b to ^b 1;");
        fault(5, TWO + "way ^c to c 1;");
        fault(5, TWO + "way a to ^c 1;");
        fault(5, "place a;way a to ^b 1;place b;");
        fault(5, "soul s stubborn 1 short 1;place a;way ^s to a 1;");
        fine(TWO + "way a to b 1;way a to b 1;way b to a 1;");
        // Eight letters tell names apart.
        fine("place abcdefgh;place abcdefgi;place a;place aa;");
    }

    private static void numbers() {
        Checks.part("faults 4");
        fault(4, "place a calm ^10;");
        fault(4, "place a echo ^10;");
        fine("place a calm 9 echo 9;place b calm 0 echo 0;");
        fault(4, TWO + "way a to b ^0;");
        fault(4, TWO + "way a to b ^41;");
        fine(TWO + "way a to b 1;way a to b 40;");
        fault(4, TWO + "way a to b 1 sight ^10;");
        fault(4, TWO + "way a to b 1 sight ^- 10;");
        fault(4, TWO + "way a to b 1 sight ^-\n 9999;");
        fault(1, TWO + "way a to b 1 sight - ^12345;");
        fine(TWO + "way a to b 1 sight 9;way a to b 1 sight -9;way a to b 1 sight - 0;way a to b 1 sight 0009;");
        fault(4, "soul p stubborn ^10 short 1;");
        fault(4, "soul p stubborn 1 short ^10;");
        fine("soul p stubborn 0 short 9;");
        fault(4, "matter m burns ^0 of 1;");
        fault(4, "matter m burns ^100 of 1;");
        fault(4, "matter m burns 1 of ^0;");
        fault(4, "matter m burns 1 of ^10;");
        fault(4, "matter m burns 1 of 1 ^0;");
        fault(4, "matter m burns 1 of 1 1 1 1 1 1 1 ^10;");
        fine("matter m burns 99 of 9 9;matter n burns 1 of 1;");
        fault(4, "draw ^1000;");
        fine("draw 999;");
        fine("heat 9999;");
    }

    private static void formulas() {
        Checks.part("formulas");
        fault(2, "heat ^;");
        fault(2, "heat ^- 1;");
        fault(2, "heat 1 - ^- 1;");
        fault(2, "heat 1 + ^;");
        fault(2, "heat 1 ^1;");
        fault(2, "heat heat ^heat;");
        fault(2, "heat 1 < 2 ^< 3;");
        fault(2, "heat 1 < 2 ^= 3;");
        fault(2, "heat 1 > 2 + 3 ^> 4;");
        fine("heat (1 < 2) < 3;");
        fine("heat 1 < 2 and 2 < 3 or 3 = 4;");
        fine("heat 1 < (2 < 3);");
        fault(2, "heat 1 < ^not 2;");
        fault(2, "heat 1 + ^not 2;");
        fine("heat 1 + (not 2);");
        fine("heat not not 1;");
        fine("heat 1 and not 2 or not 3;");
        fault(2, "heat 1 ^not 2;");
        fault(2, "heat not ^;");
        fault(2, "heat not ^and 1;");
        fault(2, "heat not 1 < 2 ^< 3;");
        fault(2, "heat 1 and ^or 2;");
        fault(2, "heat 1 or ^;");
        fault(2, "heat (^);");
        fault(2, "heat (1^;");
        fault(2, "heat 1^);");
        fault(2, "heat (1)^);");
        fault(2, "heat ((1)^;");
        fault(2, "heat 1 ^(2);");
        fault(2, "heat (1) ^(2);");
        fault(2, "heat (1) ^2;");
        fault(2, "heat ^calm;");
        fault(2, "heat ^burns;");
        fault(2, "heat ^a;");
        fault(2, "heat ^back;");
        fault(2, "heat ^place a;");
        fault(1, "heat 1 + ^12345;");
        fault(1, "heat ^1heat;");
        fine("heat heat + grief * stubborn / short % mile - left;");
        fine("back ((((heat))));");
    }

    private static void limits() {
        Checks.part("limits");
        StringBuilder places = new StringBuilder();
        for (char c = 'a'; c < 'i'; c++) {
            places.append("place ").append(c).append(';');
        }
        fine(places.toString());
        fault(2, places + "^place i;");
        fault(2, places + "^place a;");
        fault(2, places + "^place");
        String ways = places + times("way a to b 1;", 14);
        fine(ways);
        fault(2, ways + "^way a to b 1;");
        fault(2, ways + "soul p stubborn 1 short 1;^way z to b 1;");
        StringBuilder souls = new StringBuilder();
        StringBuilder matters = new StringBuilder();
        for (char c = 'a'; c < 'g'; c++) {
            souls.append("soul ").append(c).append(" stubborn 1 short 1;");
            matters.append("matter ").append(c).append(" burns 1 of 1;");
        }
        fine(souls.toString() + matters);
        fault(2, souls + "^soul g stubborn 1 short 1;");
        fault(2, matters + "^matter g burns 1 of 1;");
        fine("matter m burns 1 of 1 2 3 4 5 6 7 8;");
        fault(2, "matter m burns 1 of 1 2 3 4 5 6 7 8 ^9;");
        fault(2, "matter m burns 1 of 1 2 3 4 5 6 7 8 ^0;");
        fault(1, "matter m burns 1 of 1 2 3 4 5 6 7 8 ^12345;");
        units();
        depth();
    }

    private static void units() {
        String thirty = "1" + times("+1", 29);
        Checks.due("units", Checks.land("heat " + thirty + ";").about(12), 30);
        Checks.due("units of both", Checks.land("heat " + thirty + ";back " + thirty + ";").about(12), 60);
        fault(2, "heat " + thirty + "+^1;");
        fault(2, "heat 1;back " + thirty + "+^1;");
        fault(2, "heat " + thirty + "+^(1);");
        // A bracket is a unit, as what stands in it.
        Checks.due("units of brackets", Checks.land("heat (heat);").about(12), 2);
        Checks.due("units of nots", Checks.land("heat not not heat;").about(12), 1);
        fine("heat (1)" + times("+(1)", 14) + ";");
        fault(2, "heat (1)" + times("+(1)", 14) + "+^1;");
        fault(2, "heat 1" + times("+(1)", 14) + "+(^1);");
        fault(1, "heat " + thirty + "+^@;");
        fault(2, "heat " + thirty + "^(1);");
        Checks.due("units of none", Checks.land("place a;").about(12), 0);
    }

    private static void depth() {
        fine("heat " + times("(", 7) + "1" + times(")", 7) + ";");
        fault(2, "heat " + times("(", 7) + "^(1" + times(")", 8) + ";");
        fine("heat " + times("not ", 7) + "1;");
        fault(2, "heat " + times("not ", 7) + "^not 1;");
        fine("heat " + times("(not ", 3) + "(1))));");
        fault(2, "heat " + times("(not ", 3) + "(^not 1))));");
        fault(2, "heat " + times("(not ", 3) + "not ^(1))));");
        fine("heat " + times("not ", 6) + "(1 + 2);");
        fault(2, "heat " + times("not ", 7) + "^(1);");
        // A not goes as far as its one does.
        fault(2, "heat " + times("not ", 7) + "1 = ^(1);");
        fine("heat " + times("not ", 7) + "1 and " + times("(", 7) + "1" + times(")", 7) + " or not (1);");
        fine("heat " + times("not ", 6) + "1 = (1);");
        // Behind a bracket that is closed all is as ahead of it.
        fine("heat " + times("(", 7) + "1" + times(")", 7) + "+" + times("(", 7) + "1" + times(")", 7) + ";");
        fine("heat (not 1) + " + times("(", 7) + "1" + times(")", 7) + ";");
    }

    private static void ends() {
        Checks.part("ends");
        fault(2, "place a^");
        fault(2, "place a  \n^");
        fault(2, "place^");
        fault(2, "place a calm^");
        fault(2, TWO + "way a to b 1 sight -^");
        fault(2, "heat 1^");
        fault(2, "heat (1^");
        fault(2, "heat ^");
        fault(2, "matter m burns 1 of 1^");
        fault(2, "draw 1;^draw");
        fine("");
        fine(" \n ");
        fine("place a; \n ");
    }

    private static void landing() {
        Checks.part("promises 4, 5");
        QuarrelMiles x = new QuarrelMiles();
        Checks.due("fault(0) ahead of any", x.fault(0), 0);
        Checks.due("fault(1) ahead of any", x.fault(1), -1);
        Checks.due("fault(2)", x.fault(2), -1);
        Checks.due("fault(-1)", x.fault(-1), -1);
        String text = "place a;place b;way a to b 3;soul p stubborn 1 short 2;soul q stubborn 3 short 4;"
            + "matter m burns 9 of 1 2 3;back grief;draw 5;";
        Checks.put(x, text);
        Checks.due("land()", x.land(), 2);
        x.later(7);
        x.year();
        x.setOut(0, 1, 0, 0);
        x.take(0);
        x.words(2);
        x.undo();
        x.start(0);
        x.step(0);
        x.shortest(0, 1);
        x.report(0, 1, 0, 2);
        x.image(1);
        Checks.put(x, "place a;place a;");
        Checks.due("land() with a fault", x.land(), -1);
        Checks.due("its fault", x.fault(0), 3);
        Checks.due("its place", x.fault(1), 14);
        int[] as = {2, 1, 2, 1, 756, 3, 1, 1, 1, 1, 7, 0, 1, 1};
        for (int i = 0; i < as.length; i++) {
            Checks.due("about(" + i + ") behind a fault", x.about(i), as[i]);
        }
        Checks.due("walk(3) behind a fault", x.walk(3), 0);
        Checks.due("lies(0) behind a fault", x.lies(0), 0);
        Checks.due("redo() behind a fault", x.redo(), true);
        Checks.due("walk(3) behind a fault and redo()", x.walk(3), 2);
        Checks.put(x, text);
        Checks.due("land() again", x.land(), 2);
        Checks.due("fault again", x.fault(0), 0);
        Checks.due("its place again", x.fault(1), -1);
        int[] anew = {2, 1, 2, 1, 5, 0, 0, -1, -1, 0, 7, 0, 1, 0};
        for (int i = 0; i < anew.length; i++) {
            Checks.due("about(" + i + ") behind a land", x.about(i), anew[i]);
        }
        Checks.due("walk(0) behind a land", x.walk(0), -1);
        Checks.due("back(1) behind a land", x.back(1), -1);
        Checks.due("undo() behind a land", x.undo(), false);
        Checks.due("redo() behind a land", x.redo(), false);
        Checks.due("soul(0, 0) behind a land", x.soul(0, 0), 1);
        Checks.due("land() of nothing", x.land(), 0);
        Checks.due("quarrel of nothing", x.quarrel(0, 1, 0), -2);
        Checks.due("units of nothing", x.about(12), 0);
        Checks.due("draw of nothing", x.about(4), 0);
    }

    /** What a land does not tell is not left there by the one ahead of it. */
    private static void anew() {
        Checks.part("a land behind another one");
        String places = "place a;place b;way a to b 2;";
        String people = "soul p stubborn 0 short 0;soul q stubborn 0 short 0;matter m burns 50 of 1 1;";
        QuarrelMiles x = Checks.land("place a calm 5 echo 6;place b calm 7 echo 8;way a to b 2 sight 9;" + people
            + "heat 7;back 1;draw 77;");
        Checks.put(x, places + people);
        Checks.due("land", x.land(), 2);
        Checks.due("draw", x.about(4), 0);
        Checks.due("units", x.about(12), 0);
        x.setOut(0, 1, 0, 0);
        x.take(0);
        Checks.due("words", x.words(1), 1);
        Checks.due("heat", x.walk(4), 49);
        Checks.due("griefs", x.walk(5), 1);
        Checks.due("words", x.words(1), 1);
        Checks.due("heat", x.walk(4), 48);
        Checks.due("ended", x.walk(6), 1);
        Checks.put(x, "soul p stubborn 0 short 0;");
        x.land();
        Checks.due("ways", x.way(0, 0), -1);
        Checks.due("souls", x.soul(1, 0), -1);
        Checks.due("quarrel", x.quarrel(0, 1, 0), -2);
        Checks.due("start", x.start(0), -1);
        // A land that was tried and had a fault leaves nothing, either.
        Checks.put(x, "soul a stubborn 7 short 7;heat 5;draw 5;@");
        Checks.due("land", x.land(), -1);
        Checks.due("units", x.about(12), 0);
        Checks.due("draw", x.about(4), 0);
        Checks.due("stubborn", x.soul(0, 0), 0);
        Checks.put(x, places + people);
        x.land();
        Checks.due("draw", x.about(4), 0);
        Checks.due("quarrel", x.quarrel(0, 1, 0), 2);
    }

    private static void told() {
        Checks.part("promises 6, 7, 38");
        QuarrelMiles x = Checks.land("place a;place b;place c;way a to b 3;way c to b 40 sight -1;"
            + "soul p stubborn 1 short 2;soul q stubborn 3 short 4;soul r stubborn 9 short 0;"
            + "matter m burns 9 of 1 2 3;draw 12;heat heat-1;");
        int[] temper = {1, 2, 3, 4, 9, 0};
        for (int i = 0; i < 6; i++) {
            Checks.due("soul", x.soul(i / 2, i % 2), temper[i]);
        }
        Checks.due("soul(3, 0)", x.soul(3, 0), -1);
        Checks.due("soul(-1, 0)", x.soul(-1, 0), -1);
        Checks.due("soul(0, 2)", x.soul(0, 2), -1);
        Checks.due("soul(0, -1)", x.soul(0, -1), -1);
        Checks.due("soul far", x.soul(Integer.MAX_VALUE, 0), -1);
        int[] way = {0, 1, 3, 2, 1, 40};
        for (int i = 0; i < 6; i++) {
            Checks.due("way", x.way(i / 3, i % 3), way[i]);
        }
        Checks.due("way(2, 0)", x.way(2, 0), -1);
        Checks.due("way(-1, 0)", x.way(-1, 0), -1);
        Checks.due("way(0, 3)", x.way(0, 3), -1);
        Checks.due("way(0, -1)", x.way(0, -1), -1);
        Checks.due("way far", x.way(Integer.MIN_VALUE, 2), -1);
        int[] about = {3, 2, 3, 1, 12, 0, 0, -1, -1, 0, 0, 0, 2, 0};
        for (int i = 0; i < about.length; i++) {
            Checks.due("about(" + i + ")", x.about(i), about[i]);
        }
        Checks.due("about(14)", x.about(14), -1);
        Checks.due("about(-1)", x.about(-1), -1);
        Checks.due("about far", x.about(Integer.MAX_VALUE), -1);
        x.feed(0, 0, 0, 0, 0);
        Checks.due("about(11)", x.about(11), 20);
    }
}
