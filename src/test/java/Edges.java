import java.lang.reflect.InvocationTargetException;
import java.lang.reflect.Method;
import java.util.ArrayList;
import java.util.Comparator;
import java.util.List;

/** What the tests of the document's edges share: one method for each edge, named by its promise. */
final class Edges {
    static final long ALL_ROADS = (1L << 60) - 1L;
    static final int MIN = Integer.MIN_VALUE;
    static final int MAX = Integer.MAX_VALUE;

    /** Two SOULS who are alike; with back 1 and no heat told a QUARREL is as long as its MATTER burns. */
    static final String TWO = "soul p stubborn 1 short 1;soul q stubborn 1 short 1;";

    private Edges() { }

    interface Act {
        void on(QuarrelMiles x);
    }

    interface Call {
        long on(QuarrelMiles x);
    }

    /** The tests of a class: its methods without arguments whose names begin with promise. */
    static List<Method> testsOf(Class<?> tests) {
        List<Method> found = new ArrayList<>();
        for (Method m : tests.getDeclaredMethods()) {
            if (m.getName().startsWith("promise") && m.getParameterCount() == 0) {
                found.add(m);
            }
        }
        found.sort(Comparator.comparing(Method::getName));
        return found;
    }

    static void run(Class<?> tests) throws IllegalAccessException {
        for (Method m : testsOf(tests)) {
            Checks.part(m.getName());
            try {
                m.setAccessible(true);
                m.invoke(null);
            } catch (InvocationTargetException e) {
                Checks.due("threw " + e.getCause(), 1, 0);
            }
        }
        Checks.close();
    }

    /** The text with its sign ^ left out has that FAULT where the sign stood. */
    static void fault(int what, String marked) {
        int place = marked.indexOf('^');
        String text = marked.substring(0, place) + marked.substring(place + 1);
        QuarrelMiles x = new QuarrelMiles();
        Checks.put(x, text);
        Checks.due("land() of [" + marked + "]", x.land(), -1);
        Checks.due("fault(0) of [" + marked + "]", x.fault(0), what);
        Checks.due("fault(1) of [" + marked + "]", x.fault(1), place);
    }

    static void fine(String text) {
        Checks.land(text);
    }

    static String times(String text, int n) {
        return text.repeat(n);
    }

    /** That many lines of a sort, by names a, b, .. */
    static String lines(String sort, String rest, int n) {
        StringBuilder text = new StringBuilder();
        for (int i = 0; i < n; i++) {
            text.append(sort).append(' ').append((char) ('a' + i)).append(rest).append(';');
        }
        return text.toString();
    }

    /** As much of each sort as there can be: all WAYS are a mile from the first PLACE to the second one. */
    static String full() {
        return lines("place", "", 8) + times("way a to b 1;", 14) + lines("soul", " stubborn 1 short 1", 6)
            + lines("matter", " burns 9 of 1", 6) + "heat 1" + times("+1", 29) + ";back 1" + times("+1", 29) + ";draw 999;";
    }

    /** Matters by which a QUARREL is so long. */
    static String lengths(int... lengths) {
        StringBuilder text = new StringBuilder(TWO);
        for (int i = 0; i < lengths.length; i++) {
            text.append("matter m").append((char) ('a' + i)).append(" burns ").append(lengths[i]).append(" of 1;");
        }
        return text.append("back 1;").toString();
    }

    static QuarrelMiles after(Act act) {
        QuarrelMiles x = new QuarrelMiles();
        act.on(x);
        return x;
    }

    static void land(QuarrelMiles x, String text) {
        Checks.put(x, text);
        x.land();
    }

    /** Two walk on a WAY, there are ACTS behind and ahead, two BOXES, a ROUTE, REPORTS, a FAULT, and bytes on the TAPE. */
    static void busy(QuarrelMiles x) {
        land(x, Checks.BASE + "draw 1;");
        x.later(5);
        x.report(0, 1, 0, 0);
        x.later(2);
        x.report(1, 0, 1, 2);
        x.untell(0);
        x.later(1);
        x.year();
        x.setOut(0, 1, 0, 0);
        x.take(2);
        x.words(1);
        x.image(0);
        x.words(1);
        x.image(2);
        x.words(1);
        x.undo();
        x.start(1);
        x.step(0);
        x.step(2);
        x.shortest(0, 2);
        land(x, "place z;;");
        Checks.put(x, "place z;place");
    }

    /** The call is refused, and all is as without it. */
    static void refuses(String call, Act before, Call refused, long due) {
        QuarrelMiles x = after(before);
        Checks.due(call, refused.on(x), due);
        same(call + " leaves all as it was", tell(x), tell(after(before)));
    }

    /** The call finds nothing, so that nothing lies there; all else is as without it. */
    static void findsNothing(String call, Act before, Call search, long due) {
        QuarrelMiles x = after(before);
        Checks.due(call, search.on(x), due);
        Checks.lying(call, x);
        QuarrelMiles y = after(before);
        y.cover();
        Checks.due("numbers that lie there for " + call, y.about(13), 0);
        same(call + " leaves all else as it was", tell(x), tell(y));
    }

    /** The call is answered, and all is as without it. */
    static void onlyTells(String call, Act before, Call asked) {
        QuarrelMiles x = after(before);
        asked.on(x);
        same(call + " does nothing", tell(x), tell(after(before)));
    }

    static void same(String call, List<String> got, List<String> want) {
        Checks.due(call + ": answers", got.size(), want.size());
        for (int i = 0; i < got.size() && i < want.size(); i++) {
            Checks.due(call + ": " + got.get(i) + " for " + want.get(i), got.get(i).equals(want.get(i)), true);
        }
    }

    /** All that calls tell of an object. Some of them change it, so it is used up; there are fewer than 400 of them. */
    static List<String> tell(QuarrelMiles x) {
        List<String> told = new ArrayList<>();
        for (int i = 0; i <= 13; i++) {
            told.add("about(" + i + ") " + x.about(i));
        }
        told.add("fault " + x.fault(0) + " at " + x.fault(1));
        for (int way = 0; way < 3; way++) {
            told.add("way " + x.way(way, 0) + " to " + x.way(way, 1) + ", " + x.way(way, 2));
        }
        for (int i = 0; i < 4; i++) {
            told.add("lies(" + i + ") " + x.lies(i));
        }
        for (int k = 4; k <= 9; k++) {
            told.add("miles(" + k + ") " + x.miles(k));
        }
        told.add("untell(1) " + x.untell(1));
        told.add("walked " + x.walked(0, 1, 0, 0) + ", " + x.walked(0, 1, 1, 3));
        told.add("quarrel " + x.quarrel(0, 1, 0) + ", " + x.quarrel(1, 0, 1));
        told.add(tellEarnest(x));
        tellActs(x, told);
        for (int box = 0; box < 3; box++) {
            told.add("back(" + box + ") " + x.back(box) + ": " + tellEarnest(x));
        }
        told.add("land() " + x.land() + ", fault " + x.fault(0) + " at " + x.fault(1));
        return told;
    }

    private static String tellEarnest(QuarrelMiles x) {
        StringBuilder told = new StringBuilder("walk");
        for (int i = 0; i < 7; i++) {
            told.append(' ').append(x.walk(i));
        }
        told.append(", tempers ").append(x.soul(0, 0)).append(x.soul(0, 1)).append(x.soul(1, 0)).append(x.soul(1, 1));
        return told.append(", seed ").append(x.about(4)).toString();
    }

    private static void tellActs(QuarrelMiles x, List<String> told) {
        for (int i = 0; i < 50 && x.redo(); i++) {
            told.add("redo: words " + x.walk(3) + ", seed " + x.about(4));
        }
        told.add("redone: " + tellEarnest(x));
        for (int i = 0; i < 50 && x.undo(); i++) {
            told.add("undo: words " + x.walk(3) + ", seed " + x.about(4));
        }
        told.add("undone: " + tellEarnest(x));
    }

    /** What is found by numbers that there are and by some that there are not; before is done on eight objects. */
    static List<String> searches(Act before) {
        List<String> told = new ArrayList<>();
        for (int a = 0; a < 8; a++) {
            QuarrelMiles x = after(before);
            told.add("soul " + x.soul(a, 0) + ", " + x.soul(a, 1) + "; way " + x.way(a, 0) + ", " + x.way(a, 2));
            for (int b = 0; b < 8; b++) {
                told.add("shortest " + x.shortest(a, b) + " by " + x.lies(0) + ", " + x.lies(1) + "; send " + x.send(a, b));
                told.add("home " + x.home(0, 1, 0, a, b, 4) + " by " + x.lies(0) + ", " + x.lies(1) + ", " + x.lies(2));
                told.add("adds " + x.adds(a, b) + "; measure " + x.measure(0, 1, a, b, false) + ", " + x.measure(0, a, b, 0, true));
                told.add("quarrel " + x.quarrel(a, b, 0) + ", " + x.quarrel(0, a, b) + "; temper " + x.temper(a, b, 0, 2));
            }
            told.add("fair " + x.fair() + "; cover " + x.cover() + "; turned " + x.turned() + "; ask " + x.ask(0, 0) + ", " + x.ask(1, 0));
            told.add("year " + x.year() + "; " + x.soul(0, 0) + x.soul(0, 1) + x.soul(1, 0) + x.soul(1, 1));
            told.add("step " + x.step(a) + "; walked " + x.walked(0, 1, 0, 0) + "; loud " + x.loud(0, 1, 0, 0) + "; heat " + x.heat(0, 1, 0, 1));
            told.add("report " + x.report(0, 1, 0, 2) + "; miles " + x.miles(9));
            told.add("set out " + x.setOut(0, 1, 0, a) + "; take " + x.take(0) + "; words " + x.words(9) + "; " + x.walk(4) + x.walk(5));
        }
        return told;
    }

    /** The call is answered by tempers as they are now: as if these had been told, and not always as by those that were. */
    static void byTempersNow(String call, Call asked) {
        byTempersNow(call, "place a calm 1;place b echo 1;place c;way a to b 3;way b to c 2 sight 1;way a to c 6;way c to b 1;", asked);
    }

    static void byTempersNow(String call, String ways, Call asked) {
        boolean isUnlike = false;
        QuarrelMiles x = Checks.land(ways + tempered(1, 1, 1, 1));
        long first = asked.on(x);
        for (int year = 1; year <= 12; year++) {
            x.year();
            QuarrelMiles y = Checks.land(ways + tempered(x.soul(0, 0), x.soul(0, 1), x.soul(1, 0), x.soul(1, 1)));
            long answer = asked.on(x);
            Checks.due(call + " behind " + year + " years", answer, asked.on(y));
            isUnlike = isUnlike || answer != first;
        }
        Checks.due(call + " becomes another one", isUnlike, true);
    }

    private static String tempered(int stubborn, int shortness, int otherStubborn, int otherShortness) {
        return "soul p stubborn " + stubborn + " short " + shortness + ";soul q stubborn " + otherStubborn + " short " + otherShortness
            + ";matter m burns 9 of 1 2;matter n burns 5 of 3;matter o burns 12 of 1 1 4 2;"
            + "heat heat - stubborn + grief % 2;back left < short;draw 3;";
    }
}
