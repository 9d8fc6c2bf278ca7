/** How QuarrelMiles is used: a land is told, quarrels are asked for, two walk, things are looked for, a road is guessed. */
public final class Example {
    private Example() { }

    public static void main(String[] args) {
        QuarrelMiles x = new QuarrelMiles();

        // Everything has a number, from 0, in the order in which the text tells it.
        tell(x, "place hut; place lake calm 1; place peak echo 2;"
            + "way hut to lake 2; way lake to peak 3 sight 1; way hut to peak 6;"
            + "soul ann stubborn 2 short 1; soul bob stubborn 0 short 3;"
            + "matter salt burns 5 of 1 2 3; back grief - 1;");
        say("land: places", x.land());

        // A quarrel of two souls by a matter, in open country.
        say("quarrel of ann and bob by salt: miles", x.quarrel(0, 1, 0));
        say("its heat behind 3 words", x.heat(0, 1, 0, 3));
        say("how many such quarrels the way from hut to peak is long", x.measure(0, 1, 0, 2, false));

        // In earnest: two set out, take a way, say words; acts can be undone.
        x.setOut(0, 1, 0, 0);
        say("take the way from hut to lake: miles", x.take(0));
        say("words said, of 60", x.words(60));
        say("they are at place", x.walk(0));
        x.undo();
        say("undone: miles on the way", x.walk(2));

        // What is looked for, and what lies there then.
        say("shortest from hut to peak: miles", x.shortest(0, 2));
        say("its first way", x.lies(0));
        say("its second way", x.lies(1));
        say("there is no third one", x.lies(2));

        // An unknown road: ann and bob's quarrel by salt had not ended (2) at its end.
        say("report", x.report(0, 1, 0, 2));
        say("the road can be so long, as bits", x.miles(0));

        // A text with a fault leaves all else as it is.
        tell(x, "place hut; place hut;");
        say("land", x.land());
        say("fault", x.fault(0));
        say("at byte", x.fault(1));
        say("places, as ever", x.about(0));
    }

    /** The text comes on the tape, twenty bytes at a time, and what is fed behind it is cut off. */
    private static void tell(QuarrelMiles x, String text) {
        int end = x.about(11) + text.length();
        for (int at = 0; at < text.length(); at += 20) {
            x.feed(four(text, at), four(text, at + 4), four(text, at + 8), four(text, at + 12), four(text, at + 16));
        }
        x.end(end);
    }

    /** Four bytes of the text in a number, the first one highest. */
    private static int four(String text, int at) {
        int number = 0;
        for (int i = at; i < at + 4; i++) {
            number = number << 8 | (i < text.length() ? text.charAt(i) : ' ');
        }
        return number;
    }

    private static void say(String what, long answer) {
        System.out.println(what + ": " + answer);
    }
}
