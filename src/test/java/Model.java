import java.util.ArrayList;
import java.util.Arrays;
import java.util.List;
import java.util.Set;

/**
 * The document told a second time, as plainly as can be and with the whole Java library:
 * formulas are trees, states are copies, searches look at everything. Only for tests.
 */
final class Model {
    static final class Fault extends Exception {
        final int what;
        final int place;

        Fault(int what, int place) {
            super(null, null, false, false);
            this.what = what;
            this.place = place;
        }
    }

    interface Tree {
        int value(int[] known);
    }

    record Token(String text, boolean isNumber, int place) {
        boolean is(String other) {
            return text != null && text.equals(other);
        }
    }

    record Place(String name, int calm, int echo) { }

    record Way(int from, int to, int miles, int sight) {
        int otherEnd(int place) {
            return place == from ? to : place == to ? from : -1;
        }
    }

    record Soul(String name, int stubborn, int shortness) { }

    record Matter(String name, int burns, List<Integer> griefs) { }

    static final Set<String> KEYWORDS = Set.of("place", "calm", "echo", "way", "to", "sight", "soul", "stubborn",
        "short", "matter", "burns", "of", "heat", "back", "draw", "or", "and", "not", "grief", "mile", "left");

    static final class Text {
        final List<Place> places = new ArrayList<>();
        final List<Way> ways = new ArrayList<>();
        final List<Soul> souls = new ArrayList<>();
        final List<Matter> matters = new ArrayList<>();
        Tree heat;
        Tree back;
        int draw = -1;
        int units;

        private final String bytes;
        private int at;
        private Token now;
        private int unitsInOne;

        Text(String bytes) throws Fault {
            this.bytes = bytes;
            next();
            while (now.text != null) {
                line();
                take(";");
            }
        }

        private void next() throws Fault {
            // Each token is judged before the next one is read, so the first fault thrown is the first one.
            while (at < bytes.length() && (bytes.charAt(at) == ' ' || bytes.charAt(at) == '\n')) {
                at++;
            }
            int from = at;
            if (from == bytes.length()) {
                now = new Token(null, false, from);
                return;
            }
            char c = bytes.charAt(at);
            if (c >= 'a' && c <= 'z') {
                while (at < bytes.length() && bytes.charAt(at) >= 'a' && bytes.charAt(at) <= 'z') {
                    at++;
                }
                if (at - from > 8) {
                    throw new Fault(1, from);
                }
                now = new Token(bytes.substring(from, at), false, from);
            } else if (c >= '0' && c <= '9') {
                while (at < bytes.length() && bytes.charAt(at) >= '0' && bytes.charAt(at) <= '9') {
                    at++;
                }
                boolean isLetterBehind = at < bytes.length() && bytes.charAt(at) >= 'a' && bytes.charAt(at) <= 'z';
                if (at - from > 4 || isLetterBehind) {
                    throw new Fault(1, from);
                }
                now = new Token(bytes.substring(from, at), true, from);
            } else if (";()<>=+-*/%".indexOf(c) >= 0) {
                at++;
                now = new Token(String.valueOf(c), false, from);
            } else {
                throw new Fault(1, from);
            }
        }

        private Fault here(int what) {
            return new Fault(what, now.place);
        }

        private void take(String text) throws Fault {
            if (!now.is(text)) {
                throw here(2);
            }
            next();
        }

        private boolean isName() {
            return now.text != null && !now.isNumber && Character.isLetter(now.text.charAt(0))
                && !KEYWORDS.contains(now.text);
        }

        private String name(List<String> told) throws Fault {
            if (!isName()) {
                throw here(2);
            }
            if (told.contains(now.text)) {
                throw here(3);
            }
            String name = now.text;
            next();
            return name;
        }

        private int number(int low, int high) throws Fault {
            if (!now.isNumber) {
                throw here(2);
            }
            int value = Integer.parseInt(now.text);
            if (value < low || value > high) {
                throw here(4);
            }
            next();
            return value;
        }

        private void line() throws Fault {
            String word = now.text;
            switch (word) {
                case "place" -> place();
                case "way" -> way();
                case "soul" -> {
                    few(souls.size(), 6);
                    next();
                    String name = name(souls.stream().map(Soul::name).toList());
                    take("stubborn");
                    int stubborn = number(0, 9);
                    take("short");
                    souls.add(new Soul(name, stubborn, number(0, 9)));
                }
                case "matter" -> matter();
                case "heat" -> {
                    few(heat == null ? 0 : 1, 1);
                    next();
                    heat = rule();
                }
                case "back" -> {
                    few(back == null ? 0 : 1, 1);
                    next();
                    back = rule();
                }
                case "draw" -> {
                    few(draw == -1 ? 0 : 1, 1);
                    next();
                    draw = number(0, 999);
                }
                default -> throw here(2);
            }
        }

        private void few(int count, int most) throws Fault {
            if (count >= most) {
                throw here(2);
            }
        }

        private void place() throws Fault {
            few(places.size(), 8);
            next();
            String name = name(places.stream().map(Place::name).toList());
            int calm = 0;
            int echo = 0;
            if (now.is("calm")) {
                next();
                calm = number(0, 9);
            }
            if (now.is("echo")) {
                next();
                echo = number(0, 9);
            }
            places.add(new Place(name, calm, echo));
        }

        private int placeNamed() {
            for (int i = 0; i < places.size(); i++) {
                if (now.is(places.get(i).name)) {
                    return i;
                }
            }
            return -1;
        }

        private void way() throws Fault {
            few(ways.size(), 14);
            next();
            if (!isName()) {
                throw here(2);
            }
            int from = placeNamed();
            if (from < 0) {
                throw here(5);
            }
            next();
            take("to");
            if (!isName()) {
                throw here(2);
            }
            int to = placeNamed();
            if (to == from) {
                throw here(3);
            }
            if (to < 0) {
                throw here(5);
            }
            next();
            int miles = number(1, 40);
            int sight = 0;
            if (now.is("sight")) {
                next();
                Fault cannotBe = here(4);
                int sign = 1;
                if (now.is("-")) {
                    sign = -1;
                    next();
                }
                if (!now.isNumber) {
                    throw here(2);
                }
                sight = sign * Integer.parseInt(now.text);
                if (Math.abs(sight) > 9) {
                    throw cannotBe;
                }
                next();
            }
            ways.add(new Way(from, to, miles, sight));
        }

        private void matter() throws Fault {
            few(matters.size(), 6);
            next();
            String name = name(matters.stream().map(Matter::name).toList());
            take("burns");
            int burns = number(1, 99);
            take("of");
            List<Integer> griefs = new ArrayList<>();
            griefs.add(number(1, 9));
            while (now.isNumber) {
                few(griefs.size(), 8);
                griefs.add(number(1, 9));
            }
            matters.add(new Matter(name, burns, griefs));
        }

        private Tree rule() throws Fault {
            unitsInOne = 0;
            return either(0);
        }

        private Tree either(int around) throws Fault {
            Tree left = both(around);
            while (now.is("or")) {
                next();
                Tree one = left;
                Tree other = both(around);
                left = known -> one.value(known) != 0 | other.value(known) != 0 ? 1 : 0;
            }
            return left;
        }

        private Tree both(int around) throws Fault {
            Tree left = one(around);
            while (now.is("and")) {
                next();
                Tree one = left;
                Tree other = one(around);
                left = known -> one.value(known) != 0 & other.value(known) != 0 ? 1 : 0;
            }
            return left;
        }

        private Tree one(int around) throws Fault {
            if (now.is("not")) {
                if (around > 6) {
                    throw here(2);
                }
                next();
                Tree one = one(around + 1);
                return known -> one.value(known) == 0 ? 1 : 0;
            }
            Tree left = sum(around);
            if (now.is("<")) {
                next();
                Tree right = sum(around);
                return known -> left.value(known) < right.value(known) ? 1 : 0;
            }
            if (now.is(">")) {
                next();
                Tree right = sum(around);
                return known -> left.value(known) > right.value(known) ? 1 : 0;
            }
            if (now.is("=")) {
                next();
                Tree right = sum(around);
                return known -> left.value(known) == right.value(known) ? 1 : 0;
            }
            return left;
        }

        private Tree sum(int around) throws Fault {
            Tree left = term(around);
            while (now.is("+") || now.is("-")) {
                boolean isMore = now.is("+");
                next();
                Tree one = left;
                Tree other = term(around);
                left = known -> isMore ? one.value(known) + other.value(known) : one.value(known) - other.value(known);
            }
            return left;
        }

        private Tree term(int around) throws Fault {
            Tree left = unit(around);
            while (now.is("*") || now.is("/") || now.is("%")) {
                String sign = now.text;
                next();
                Tree one = left;
                Tree other = unit(around);
                left = known -> {
                    int a = one.value(known);
                    int b = other.value(known);
                    if (sign.equals("*")) {
                        return (int) ((long) a * (long) b);
                    }
                    if (b == 0) {
                        return 0;
                    }
                    return (int) (sign.equals("/") ? (long) a / (long) b : (long) a % (long) b);
                };
            }
            return left;
        }

        private Tree unit(int around) throws Fault {
            int known = now.text == null ? -1
                : List.of("heat", "grief", "stubborn", "short", "mile", "left").indexOf(now.text);
            if (!now.isNumber && known < 0 && !now.is("(")) {
                throw here(2);
            }
            if (unitsInOne == 30 || units == 60 || now.is("(") && around > 6) {
                throw here(2);
            }
            unitsInOne++;
            units++;
            if (now.is("(")) {
                next();
                Tree tree = either(around + 1);
                take(")");
                return tree;
            }
            int value = now.isNumber ? Integer.parseInt(now.text) : 0;
            next();
            return known < 0 ? all -> value : all -> all[known];
        }
    }

    /** A quarrel that goes on. */
    final class Talk implements Cloneable {
        final int one;
        final int other;
        int heat;
        int words;
        List<Integer> pile;

        Talk(int one, int other, int matter) {
            this.one = one;
            this.other = other;
            heat = text.matters.get(matter).burns;
            pile = new ArrayList<>(text.matters.get(matter).griefs);
        }

        Talk copy() {
            try {
                Talk talk = (Talk) clone();
                talk.pile = new ArrayList<>(pile);
                return talk;
            } catch (CloneNotSupportedException e) {
                throw new IllegalStateException(e);
            }
        }

        boolean isOver() {
            return words > 0 && (heat == 0 || pile.isEmpty());
        }

        void say(int[] tempers) {
            words++;
            int speaker = words % 2 == 1 ? one : other;
            int grief = pile.remove(pile.size() - 1);
            int[] known = {heat, grief, tempers[2 * speaker], tempers[2 * speaker + 1], words, pile.size()};
            int hotter = text.heat == null ? heat - 1 : text.heat.value(known);
            int answered = text.back == null ? 0 : text.back.value(known);
            heat = Math.min(99, Math.max(0, hotter));
            if (answered > 0) {
                pile.add(Math.min(9, answered));
            }
        }

        void mile(int[] tempers, Way way, int mile, int end) {
            say(tempers);
            heat = Math.min(99, Math.max(0, heat + way.sight));
            if (mile == way.miles) {
                Place place = text.places.get(end);
                heat = Math.max(0, heat - place.calm);
                if (place.echo > 0 && pile.size() < 20) {
                    pile.add(place.echo);
                }
            }
        }
    }

    /** All that an image keeps and an act changes. */
    final class Earnest {
        int[] tempers = new int[0];
        int seed;
        Talk talk;
        int place;
        int way = -1;
        int mile;

        Earnest copy() {
            Earnest e = new Earnest();
            e.tempers = tempers.clone();
            e.seed = seed;
            e.talk = talk == null ? null : talk.copy();
            e.place = place;
            e.way = way;
            e.mile = mile;
            return e;
        }
    }

    record Report(int length, int what, int toldAt, int[] untoldAt) { }

    private final StringBuilder tape = new StringBuilder();
    private Text text;
    private int fault = 0;
    private int faultPlace = -1;
    private Earnest earnest = new Earnest();
    private final List<Earnest> undo = new ArrayList<>();
    private final List<Earnest> redo = new ArrayList<>();
    private final Earnest[] boxes = new Earnest[3];
    private List<Integer> route;
    private int routeStart;
    private List<Integer> lying = new ArrayList<>();
    private final List<Report> reports = new ArrayList<>();
    private int time;

    Model() {
        try {
            text = new Text("");
        } catch (Fault e) {
            throw new IllegalStateException(e);
        }
    }

    int feed(int a, int b, int c, int d, int e) {
        if (tape.length() + 20 > 1600) {
            return -1;
        }
        for (int number : new int[] {a, b, c, d, e}) {
            for (int i = 3; i >= 0; i--) {
                tape.append((char) (number >>> 8 * i & 255));
            }
        }
        return tape.length();
    }

    int end(int n) {
        if (n < 0 || n > tape.length()) {
            return -1;
        }
        tape.setLength(n);
        return n;
    }

    int land() {
        String bytes = tape.toString();
        tape.setLength(0);
        try {
            text = new Text(bytes);
            fault = 0;
            faultPlace = -1;
        } catch (Fault f) {
            fault = f.what;
            faultPlace = f.place;
            return -1;
        }
        earnest = new Earnest();
        earnest.tempers = toldTempers();
        earnest.seed = Math.max(0, text.draw);
        undo.clear();
        redo.clear();
        Arrays.fill(boxes, null);
        route = null;
        lying = new ArrayList<>();
        reports.clear();
        return text.places.size();
    }

    private int[] toldTempers() {
        int[] tempers = new int[2 * text.souls.size()];
        for (int i = 0; i < text.souls.size(); i++) {
            tempers[2 * i] = text.souls.get(i).stubborn;
            tempers[2 * i + 1] = text.souls.get(i).shortness;
        }
        return tempers;
    }

    int fault(int what) {
        return what == 0 ? fault : what == 1 ? faultPlace : -1;
    }

    int soul(int soul, int what) {
        return isIn(soul, text.souls) && (what == 0 || what == 1) ? earnest.tempers[2 * soul + what] : -1;
    }

    int way(int way, int what) {
        if (!isIn(way, text.ways)) {
            return -1;
        }
        Way w = text.ways.get(way);
        return what == 0 ? w.from : what == 1 ? w.to : what == 2 ? w.miles : -1;
    }

    private static boolean isIn(int i, List<?> list) {
        return i >= 0 && i < list.size();
    }

    private boolean canBe(int one, int other, int matter) {
        return isIn(one, text.souls) && isIn(other, text.souls) && one != other && isIn(matter, text.matters);
    }

    private int length(int one, int other, int matter, int[] tempers, int most) {
        Talk talk = new Talk(one, other, matter);
        while (!talk.isOver()) {
            if (talk.words == most) {
                return -1;
            }
            talk.say(tempers);
        }
        return talk.words;
    }

    int quarrel(int one, int other, int matter) {
        return canBe(one, other, matter) ? length(one, other, matter, earnest.tempers, 200) : -2;
    }

    int heat(int one, int other, int matter, int words) {
        if (!canBe(one, other, matter) || words < 0 || words > 200) {
            return -2;
        }
        Talk talk = new Talk(one, other, matter);
        while (talk.words < words && !talk.isOver()) {
            talk.say(earnest.tempers);
        }
        return talk.heat;
    }

    private void act(Earnest before) {
        undo.add(before);
        redo.clear();
        if (undo.size() > 40) {
            undo.remove(0);
        }
    }

    int setOut(int one, int other, int matter, int place) {
        if (!canBe(one, other, matter) || !isIn(place, text.places)) {
            return -1;
        }
        act(earnest.copy());
        earnest.talk = new Talk(one, other, matter);
        earnest.place = place;
        earnest.way = -1;
        earnest.mile = 0;
        return 1;
    }

    int take(int way) {
        if (earnest.talk == null || earnest.way >= 0 || earnest.talk.isOver() || !isIn(way, text.ways)
            || text.ways.get(way).otherEnd(earnest.place) < 0) {
            return -1;
        }
        act(earnest.copy());
        earnest.way = way;
        earnest.mile = 0;
        return text.ways.get(way).miles;
    }

    int words(int n) {
        if (n < 0 || n > 60 || earnest.talk == null) {
            return -1;
        }
        act(earnest.copy());
        int said = 0;
        while (said < n && earnest.way >= 0 && !earnest.talk.isOver()) {
            Way way = text.ways.get(earnest.way);
            int end = way.otherEnd(earnest.place);
            earnest.mile++;
            earnest.talk.mile(earnest.tempers, way, earnest.mile, end);
            said++;
            if (earnest.mile == way.miles) {
                earnest.place = end;
                earnest.way = -1;
                earnest.mile = 0;
            }
        }
        return said;
    }

    int year() {
        int souls = text.souls.size();
        if (souls == 0) {
            return -1;
        }
        act(earnest.copy());
        earnest.seed = (137 * earnest.seed + 71) % 1000;
        int soul = earnest.seed % souls;
        int at = 2 * soul + (earnest.seed / 10) % 2;
        earnest.tempers[at] = Math.min(9, earnest.tempers[at] + 1);
        return soul;
    }

    int walk(int what) {
        Talk t = earnest.talk;
        if (t == null || what < 0 || what > 6) {
            return -1;
        }
        return new int[] {earnest.place, earnest.way, earnest.mile, t.words, t.heat, t.pile.size(),
            t.isOver() ? 1 : 0}[what];
    }

    boolean undo() {
        if (undo.isEmpty()) {
            return false;
        }
        redo.add(earnest);
        earnest = undo.remove(undo.size() - 1);
        return true;
    }

    boolean redo() {
        if (redo.isEmpty()) {
            return false;
        }
        undo.add(earnest);
        earnest = redo.remove(redo.size() - 1);
        return true;
    }

    int start(int place) {
        if (!isIn(place, text.places)) {
            return -1;
        }
        route = new ArrayList<>();
        routeStart = place;
        return 1;
    }

    private int endOf(int start, List<Integer> ways) {
        int place = start;
        for (int way : ways) {
            place = place < 0 ? -1 : text.ways.get(way).otherEnd(place);
        }
        return place;
    }

    int step(int way) {
        if (route == null || route.size() == 12 || !isIn(way, text.ways)
            || text.ways.get(way).otherEnd(endOf(routeStart, route)) < 0) {
            return -1;
        }
        route.add(way);
        return route.size();
    }

    private int milesOf(List<Integer> ways) {
        return ways.stream().mapToInt(way -> text.ways.get(way).miles).sum();
    }

    /** A talk goes on behind so many miles of a row, till it is over or the row ends. */
    private void along(Talk talk, int start, List<Integer> ways, int behind) {
        int place = start;
        int passed = 0;
        for (int number : ways) {
            Way way = text.ways.get(number);
            int end = way.otherEnd(place);
            for (int mile = 1; mile <= way.miles; mile++) {
                passed++;
                if (passed > behind && !talk.isOver()) {
                    talk.mile(earnest.tempers, way, mile, end);
                }
            }
            place = end;
        }
    }

    int walked(int one, int other, int matter, int what) {
        if (!canBe(one, other, matter) || route == null || what < 0 || what > 3) {
            return -2;
        }
        Talk talk = new Talk(one, other, matter);
        along(talk, routeStart, route, 0);
        if (what == 3) {
            return talk.heat;
        }
        if (!talk.isOver()) {
            return -1;
        }
        int number = 0;
        int rest = talk.words;
        while (rest > text.ways.get(route.get(number)).miles) {
            rest -= text.ways.get(route.get(number)).miles;
            number++;
        }
        return what == 0 ? talk.words : what == 1 ? number : rest;
    }

    /** All simple routes are looked at: the fewest miles, and the first of these. */
    private List<Integer> findShortest(int from, int to) {
        if (!isIn(from, text.places) || !isIn(to, text.places)) {
            return null;
        }
        List<List<Integer>> best = new ArrayList<>();
        lookOn(from, to, new ArrayList<>(), new ArrayList<>(List.of(from)), best);
        return best.isEmpty() ? null : best.get(0);
    }

    private void lookOn(int place, int to, List<Integer> ways, List<Integer> seen, List<List<Integer>> best) {
        if (!best.isEmpty() && milesOf(ways) >= milesOf(best.get(0)) && place != to) {
            return;
        }
        if (place == to) {
            if (best.isEmpty() || milesOf(ways) < milesOf(best.get(0))) {
                best.clear();
                best.add(new ArrayList<>(ways));
            }
            return;
        }
        for (int way = 0; way < text.ways.size(); way++) {
            int end = text.ways.get(way).otherEnd(place);
            if (end >= 0 && !seen.contains(end)) {
                ways.add(way);
                seen.add(end);
                lookOn(end, to, ways, seen, best);
                ways.remove(ways.size() - 1);
                seen.remove(seen.size() - 1);
            }
        }
    }

    int shortest(int from, int to) {
        List<Integer> ways = findShortest(from, to);
        lying = ways == null ? new ArrayList<>() : new ArrayList<>(ways);
        return ways == null ? -1 : milesOf(ways);
    }

    private List<int[]> couples() {
        List<int[]> all = new ArrayList<>();
        for (int one = 0; one < text.souls.size(); one++) {
            for (int other = 0; other < text.souls.size(); other++) {
                for (int matter = 0; matter < text.matters.size(); matter++) {
                    if (one != other) {
                        all.add(new int[] {one, other, matter});
                    }
                }
            }
        }
        return all;
    }

    private boolean endsJust(int[] couple, int start, List<Integer> ways) {
        Talk talk = new Talk(couple[0], couple[1], couple[2]);
        along(talk, start, ways, 0);
        return talk.isOver() && talk.words == milesOf(ways);
    }

    int send(int from, int to) {
        lying = new ArrayList<>();
        List<Integer> ways = findShortest(from, to);
        if (ways == null) {
            return -1;
        }
        List<int[]> good = couples().stream().filter(couple -> endsJust(couple, from, ways)).toList();
        if (!good.isEmpty()) {
            for (int number : good.get(0)) {
                lying.add(number);
            }
        }
        return good.size();
    }

    private int measureOf(int[] couple, int start, List<Integer> ways) {
        int behind = 0;
        int count = 0;
        while (behind < milesOf(ways)) {
            Talk talk = new Talk(couple[0], couple[1], couple[2]);
            count++;
            along(talk, start, ways, behind);
            behind += talk.words;
        }
        return count;
    }

    private int measureWay(int[] couple, int way, boolean isBack) {
        Way w = text.ways.get(way);
        return measureOf(couple, isBack ? w.to : w.from, List.of(way));
    }

    int measure(int one, int other, int matter, int way, boolean isBack) {
        if (!canBe(one, other, matter) || !isIn(way, text.ways)) {
            return -1;
        }
        return measureWay(new int[] {one, other, matter}, way, isBack);
    }

    int adds(int way, int other) {
        if (!isIn(way, text.ways) || !isIn(other, text.ways) || text.ways.get(way).to != text.ways.get(other).from) {
            return -1;
        }
        int start = text.ways.get(way).from;
        return (int) couples().stream().filter(couple -> measureWay(couple, way, false)
            + measureWay(couple, other, false) == measureOf(couple, start, List.of(way, other))).count();
    }

    int fair() {
        int count = 0;
        for (int[] couple : couples()) {
            boolean isFair = true;
            for (int way = 0; way < text.ways.size(); way++) {
                isFair &= measureWay(couple, way, false) == measureWay(couple, way, true);
            }
            count += isFair ? 1 : 0;
        }
        return count;
    }

    int cover() {
        lying = new ArrayList<>();
        int ways = text.ways.size();
        List<int[]> all = couples();
        boolean[][] ends = new boolean[all.size()][ways];
        for (int i = 0; i < all.size(); i++) {
            for (int way = 0; way < ways; way++) {
                ends[i][way] = endsJust(all.get(i), text.ways.get(way).from, List.of(way));
            }
        }
        for (int count = 0; count <= 3; count++) {
            List<Integer> chosen = new ArrayList<>();
            if (choose(ends, ways, count, 0, chosen)) {
                for (int i : chosen) {
                    lying.add(100 * all.get(i)[0] + 10 * all.get(i)[1] + all.get(i)[2]);
                }
                return count;
            }
        }
        return -1;
    }

    private static boolean choose(boolean[][] ends, int ways, int count, int from, List<Integer> chosen) {
        if (chosen.size() == count) {
            for (int way = 0; way < ways; way++) {
                boolean isCovered = false;
                for (int i : chosen) {
                    isCovered |= ends[i][way];
                }
                if (!isCovered) {
                    return false;
                }
            }
            return true;
        }
        for (int i = from; i < ends.length; i++) {
            chosen.add(i);
            if (choose(ends, ways, count, i + 1, chosen)) {
                return true;
            }
            chosen.remove(chosen.size() - 1);
        }
        return false;
    }

    int turned() {
        return (int) couples().stream().filter(c -> c[0] < c[1]
            && quarrel(c[0], c[1], c[2]) == quarrel(c[1], c[0], c[2])).count();
    }

    int loud(int one, int other, int matter, int what) {
        if (!canBe(one, other, matter) || what < 0 || what > 1) {
            return -2;
        }
        int best = -1;
        int word = -1;
        int length = quarrel(one, other, matter);
        for (int i = 1; i <= (length < 0 ? 200 : length); i++) {
            int heat = heat(one, other, matter, i);
            if (heat > best) {
                best = heat;
                word = i;
            }
        }
        return what == 0 ? best : word;
    }

    int home(int one, int other, int matter, int from, int to, int n) {
        lying = new ArrayList<>();
        if (!canBe(one, other, matter) || !isIn(from, text.places) || !isIn(to, text.places) || n < 1 || n > 4) {
            return -1;
        }
        int count = 0;
        List<List<Integer>> rows = new ArrayList<>();
        rows.add(new ArrayList<>());
        for (int i = 0; i < n; i++) {
            List<List<Integer>> longer = new ArrayList<>();
            for (List<Integer> row : rows) {
                int place = endOf(from, row);
                for (int way = 0; way < text.ways.size(); way++) {
                    if (text.ways.get(way).otherEnd(place) >= 0) {
                        List<Integer> next = new ArrayList<>(row);
                        next.add(way);
                        longer.add(next);
                    }
                }
            }
            rows = longer;
            for (List<Integer> row : rows) {
                if (endOf(from, row) == to && endsJust(new int[] {one, other, matter}, from, row)) {
                    if (count == 0) {
                        lying = new ArrayList<>(row);
                    }
                    count++;
                }
            }
        }
        return count;
    }

    int temper(int one, int other, int matter, int miles) {
        lying = new ArrayList<>();
        if (!canBe(one, other, matter) || miles < 1 || miles > 60) {
            return -2;
        }
        int best = -1;
        for (int i = 0; i < 10000; i++) {
            int[] four = {i / 1000, i / 100 % 10, i / 10 % 10, i % 10};
            int[] at = {2 * one, 2 * one + 1, 2 * other, 2 * other + 1};
            int[] tempers = earnest.tempers.clone();
            int changes = 0;
            for (int k = 0; k < 4; k++) {
                changes += Math.abs(four[k] - tempers[at[k]]);
                tempers[at[k]] = four[k];
            }
            if ((best < 0 || changes < best) && length(one, other, matter, tempers, 60) == miles) {
                best = changes;
                lying = new ArrayList<>();
                for (int number : four) {
                    lying.add(number);
                }
            }
        }
        return best;
    }

    int lies(int i) {
        return isIn(i, lying) ? lying.get(i) : -1;
    }

    int report(int one, int other, int matter, int what) {
        if (!canBe(one, other, matter) || what < 0 || what > 2 || reports.size() == 30) {
            return -1;
        }
        reports.add(new Report(length(one, other, matter, toldTempers(), 200), what, time, new int[] {-1}));
        return reports.size() - 1;
    }

    boolean untell(int report) {
        if (!isIn(report, reports) || reports.get(report).untoldAt[0] >= 0) {
            return false;
        }
        reports.get(report).untoldAt[0] = time;
        return true;
    }

    int later(int by) {
        if (by < 0 || by > 1000 || time + by > 100000) {
            return -1;
        }
        time += by;
        return time;
    }

    private static int answer(int length, int miles) {
        return length < 0 || length > miles ? 2 : length == miles ? 1 : 0;
    }

    private List<Integer> possible(int k) {
        List<Integer> left = new ArrayList<>();
        for (int miles = 1; miles <= 60; miles++) {
            boolean canBe = true;
            for (Report r : reports) {
                boolean counts = r.toldAt <= k && (r.untoldAt[0] < 0 || r.untoldAt[0] > k);
                if (counts && answer(r.length, miles) != r.what) {
                    canBe = false;
                }
            }
            if (canBe) {
                left.add(miles);
            }
        }
        return left;
    }

    long miles(int k) {
        long bits = 0;
        for (int miles : possible(k)) {
            bits |= 1L << miles - 1;
        }
        return bits;
    }

    int ask(int what, int k) {
        List<Integer> left = possible(k);
        if (left.isEmpty() || what < 0 || what > 1) {
            return -1;
        }
        int best = -1;
        int fewest = 0;
        for (int[] c : couples()) {
            int length = length(c[0], c[1], c[2], toldTempers(), 200);
            int[] counts = new int[3];
            for (int miles : left) {
                counts[answer(length, miles)]++;
            }
            int most = Math.max(counts[0], Math.max(counts[1], counts[2]));
            if (best < 0 || most < fewest) {
                best = 100 * c[0] + 10 * c[1] + c[2];
                fewest = most;
            }
        }
        return best < 0 || what == 0 ? best : fewest;
    }

    int image(int box) {
        if (box < 0 || box > 2) {
            return -1;
        }
        boxes[box] = earnest.copy();
        return earnest.talk == null ? 0 : earnest.talk.words;
    }

    int back(int box) {
        if (box < 0 || box > 2 || boxes[box] == null) {
            return -1;
        }
        earnest = boxes[box].copy();
        undo.clear();
        redo.clear();
        return earnest.talk == null ? 0 : earnest.talk.words;
    }

    int about(int what) {
        switch (what) {
            case 0: return text.places.size();
            case 1: return text.ways.size();
            case 2: return text.souls.size();
            case 3: return text.matters.size();
            case 4: return earnest.seed;
            case 5: return undo.size();
            case 6: return redo.size();
            case 7: return route == null ? -1 : route.size();
            case 8: return route == null ? -1 : endOf(routeStart, route);
            case 9: return reports.size();
            case 10: return time;
            case 11: return tape.length();
            case 12: return text.units;
            case 13: return lying.size();
            default: return -1;
        }
    }
}
