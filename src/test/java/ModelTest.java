/** Runs by luck on the class and on the model of it; every answer must be the same. */
public final class ModelTest {
    private static int wrong = 0;
    private static long calls = 0;
    private static final long[] ANSWERED = new long[40];

    private static final String[] NAMES = {"feed", "end", "land", "fault", "soul", "way", "quarrel", "heat", "setOut", "take",
        "words", "year", "walk", "undo", "redo", "start", "step", "walked", "shortest", "send", "measure", "adds", "fair",
        "cover", "turned", "loud", "home", "temper", "lies", "report", "untell", "later", "miles", "ask", "image", "back",
        "about"};

    public static void main(String[] args) {
        int runs = args.length > 0 ? Integer.parseInt(args[0]) : 1500;
        int first = args.length > 1 ? Integer.parseInt(args[1]) : 0;
        for (int i = first; i < first + runs && wrong < 20; i++) {
            run(i);
        }
        for (int i = first; i < first + 40 * runs && wrong < 20; i++) {
            faults(i);
        }
        StringBuilder told = new StringBuilder();
        for (int i = 0; i < NAMES.length; i++) {
            told.append(' ').append(NAMES[i]).append(' ').append(ANSWERED[i]);
        }
        System.out.println(calls + " calls alike; answers other than NONE, -2 and 0:" + told);
        if (wrong != 0) {
            System.exit(1);
        }
    }

    private static void feed(QuarrelMiles x, Model m, String text) {
        for (int i = 0; i < text.length(); i += 20) {
            int[] five = new int[5];
            for (int k = 0; k < 20; k++) {
                int sign = i + k < text.length() ? text.charAt(i + k) & 255 : ' ';
                five[k / 4] = five[k / 4] << 8 | sign;
            }
            same("feed", x.feed(five[0], five[1], five[2], five[3], five[4]),
                m.feed(five[0], five[1], five[2], five[3], five[4]), text, -1);
        }
        same("end", x.end(text.length()), m.end(text.length()), text, -1);
    }

    private static void faults(int seed) {
        Luck luck = new Luck(1000003L * seed + 7);
        QuarrelMiles x = new QuarrelMiles();
        Model m = new Model();
        String text = Texts.sound(luck, luck.below(3));
        text = Texts.broken(luck, text);
        feed(x, m, text);
        same("land", x.land(), m.land(), text, seed);
        same("fault(0)", x.fault(0), m.fault(0), text, seed);
        same("fault(1)", x.fault(1), m.fault(1), text, seed);
        same("units", x.about(12), m.about(12), text, seed);
    }

    private static void run(int seed) {
        Luck luck = new Luck(seed);
        QuarrelMiles x = new QuarrelMiles();
        Model m = new Model();
        String text = "";
        int lands = luck.between(1, 2);
        for (int land = 0; land < lands; land++) {
            String next = Texts.sound(luck, seed % 3);
            if (next.length() > 1600) {
                next = Texts.sound(luck, 0);
            }
            if (next.length() > 1600) {
                continue;
            }
            text = next;
            feed(x, m, text);
            same("land", x.land(), m.land(), text, seed);
            int most = luck.between(20, 240);
            for (int i = 0; i < most && wrong < 20; i++) {
                call(x, m, luck, text, seed);
                if (luck.oneIn(3)) {
                    look(x, m, text, seed);
                }
            }
            look(x, m, text, seed);
        }
    }

    private static void look(QuarrelMiles x, Model m, String text, int seed) {
        for (int i = -1; i <= 14; i++) {
            same("about(" + i + ")", x.about(i), m.about(i), text, seed);
        }
        for (int i = -1; i <= 7; i++) {
            same("walk(" + i + ")", x.walk(i), m.walk(i), text, seed);
        }
        for (int i = -1; i <= 12; i++) {
            same("lies(" + i + ")", x.lies(i), m.lies(i), text, seed);
        }
        for (int i = -1; i <= 6; i++) {
            for (int what = -1; what <= 2; what++) {
                same("soul(" + i + ", " + what + ")", x.soul(i, what), m.soul(i, what), text, seed);
            }
        }
    }

    /** Mostly one that is there. */
    private static int number(Luck luck, int count) {
        return luck.oneIn(12) ? luck.between(-1, 14) : luck.below(Math.max(1, count));
    }

    private static void call(QuarrelMiles x, Model m, Luck luck, String text, int seed) {
        int a = number(luck, m.about(2));
        int b = m.about(2) > 1 && !luck.oneIn(12) ? (Math.max(a, 0) + 1 + luck.below(m.about(2) - 1)) % m.about(2)
            : number(luck, m.about(2));
        int c = number(luck, m.about(3));
        int p = number(luck, m.about(0));
        int q = number(luck, m.about(0));
        int w = number(luck, m.about(1));
        int v = number(luck, m.about(1));
        int k = luck.between(-1, 5);
        boolean isBack = luck.oneIn(2);
        int call = luck.below(58);
        if (call >= 37) {
            // The two who walk, and the route, are what changes most.
            call = new int[] {8, 9, 9, 9, 10, 10, 10, 10, 10, 11, 13, 13, 14, 14, 16, 16, 16, 16, 17, 12, 34}[call - 37];
        }
        if (call == 10 && luck.oneIn(2)) {
            for (int way = 0; way < 14; way++) {
                same("take(" + way + ")", x.take(way), m.take(way), text, seed);
            }
        }
        if (call == 16 && luck.oneIn(2)) {
            for (int i = 0; i < 5; i++) {
                int way = luck.below(14);
                same("step(" + way + ")", x.step(way), m.step(way), text, seed);
            }
        }
        // What the model is slow at is asked less often, in large lands.
        boolean isSlow = call == 27 || (call == 26 || call == 23) && m.about(1) > 6;
        if (isSlow && !luck.oneIn(6)) {
            call = 20;
        }
        long got;
        long due;
        String what;
        switch (call) {
            case 0: {
                int f = luck.below(1 << 30) << 2;
                what = "feed(" + f + ", ..)";
                got = x.feed(f, a, b, -c, p);
                due = m.feed(f, a, b, -c, p);
                break;
            }
            case 1: {
                int n = luck.between(-2, 60);
                what = "end(" + n + ")";
                got = x.end(n);
                due = m.end(n);
                break;
            }
            case 2:
                what = "land()";
                if (m.about(11) == 0) {
                    return;
                }
                got = x.land();
                due = m.land();
                break;
            case 3:
                what = "fault(" + k + ")";
                got = x.fault(k);
                due = m.fault(k);
                break;
            case 4:
                what = "soul";
                got = x.soul(a, k);
                due = m.soul(a, k);
                break;
            case 5:
                what = "way";
                got = x.way(w, k);
                due = m.way(w, k);
                break;
            case 6:
                what = "quarrel(" + a + ", " + b + ", " + c + ")";
                got = x.quarrel(a, b, c);
                due = m.quarrel(a, b, c);
                break;
            case 7: {
                int n = luck.oneIn(3) ? luck.between(-1, 202) : luck.between(-1, 20);
                what = "heat(" + a + ", " + b + ", " + c + ", " + n + ")";
                got = x.heat(a, b, c, n);
                due = m.heat(a, b, c, n);
                break;
            }
            case 8:
                what = "setOut(" + a + ", " + b + ", " + c + ", " + p + ")";
                got = x.setOut(a, b, c, p);
                due = m.setOut(a, b, c, p);
                break;
            case 9:
                what = "take(" + w + ")";
                got = x.take(w);
                due = m.take(w);
                break;
            case 10: {
                int n = luck.oneIn(4) ? luck.between(-1, 61) : luck.between(0, 6);
                what = "words(" + n + ")";
                got = x.words(n);
                due = m.words(n);
                break;
            }
            case 11:
                what = "year()";
                got = x.year();
                due = m.year();
                break;
            case 12:
                what = "walk(" + k + ")";
                got = x.walk(k);
                due = m.walk(k);
                break;
            case 13:
                what = "undo()";
                got = x.undo() ? 1 : 0;
                due = m.undo() ? 1 : 0;
                break;
            case 14:
                what = "redo()";
                got = x.redo() ? 1 : 0;
                due = m.redo() ? 1 : 0;
                break;
            case 15:
                what = "start(" + p + ")";
                got = x.start(p);
                due = m.start(p);
                break;
            case 16:
                what = "step(" + w + ")";
                got = x.step(w);
                due = m.step(w);
                break;
            case 17:
                what = "walked(" + a + ", " + b + ", " + c + ", " + k + ")";
                got = x.walked(a, b, c, k);
                due = m.walked(a, b, c, k);
                break;
            case 18:
                what = "shortest(" + p + ", " + q + ")";
                got = x.shortest(p, q);
                due = m.shortest(p, q);
                break;
            case 19:
                what = "send(" + p + ", " + q + ")";
                got = x.send(p, q);
                due = m.send(p, q);
                break;
            case 20:
                what = "measure(" + a + ", " + b + ", " + c + ", " + w + ", " + isBack + ")";
                got = x.measure(a, b, c, w, isBack);
                due = m.measure(a, b, c, w, isBack);
                break;
            case 21:
                what = "adds(" + w + ", " + v + ")";
                got = x.adds(w, v);
                due = m.adds(w, v);
                break;
            case 22:
                what = "fair()";
                got = x.fair();
                due = m.fair();
                break;
            case 23:
                what = "cover()";
                got = x.cover();
                due = m.cover();
                break;
            case 24:
                what = "turned()";
                got = x.turned();
                due = m.turned();
                break;
            case 25:
                what = "loud(" + a + ", " + b + ", " + c + ", " + k + ")";
                got = x.loud(a, b, c, k);
                due = m.loud(a, b, c, k);
                break;
            case 26: {
                int n = m.about(1) > 8 ? Math.min(k, 3) : k;
                what = "home(" + a + ", " + b + ", " + c + ", " + p + ", " + q + ", " + n + ")";
                got = x.home(a, b, c, p, q, n);
                due = m.home(a, b, c, p, q, n);
                break;
            }
            case 27: {
                int n = luck.oneIn(6) ? luck.between(0, 61) : luck.between(1, 12);
                what = "temper(" + a + ", " + b + ", " + c + ", " + n + ")";
                got = x.temper(a, b, c, n);
                due = m.temper(a, b, c, n);
                break;
            }
            case 28:
                what = "lies(" + k + ")";
                got = x.lies(k);
                due = m.lies(k);
                break;
            case 29: {
                // Mostly what is true of some road, so that some MILES are left.
                int road = 5 + seed % 20;
                int length = m.quarrel(a, b, c);
                int answer = length == -1 || length > road ? 2 : length == road ? 1 : 0;
                if (luck.oneIn(5)) {
                    answer = luck.between(-1, 3);
                }
                what = "report(" + a + ", " + b + ", " + c + ", " + answer + ")";
                got = x.report(a, b, c, answer);
                due = m.report(a, b, c, answer);
                break;
            }
            case 30: {
                int n = luck.between(-1, Math.max(1, m.about(9)));
                what = "untell(" + n + ")";
                got = x.untell(n) ? 1 : 0;
                due = m.untell(n) ? 1 : 0;
                break;
            }
            case 31: {
                int n = luck.oneIn(6) ? luck.between(-1, 1001) : luck.below(4);
                what = "later(" + n + ")";
                got = x.later(n);
                due = m.later(n);
                break;
            }
            case 32: {
                int n = m.about(10) + luck.between(-6, 2);
                what = "miles(" + n + ")";
                got = x.miles(n);
                due = m.miles(n);
                break;
            }
            case 33: {
                int n = m.about(10) + luck.between(-6, 2);
                int which = luck.oneIn(9) ? k : luck.below(2);
                what = "ask(" + which + ", " + n + ")";
                got = x.ask(which, n);
                due = m.ask(which, n);
                break;
            }
            case 34:
                what = "image(" + k + ")";
                got = x.image(k);
                due = m.image(k);
                break;
            case 35:
                what = "back(" + k + ")";
                got = x.back(k);
                due = m.back(k);
                break;
            default:
                what = "about(" + k + ")";
                got = x.about(k);
                due = m.about(k);
                break;
        }
        if (due > 0) {
            ANSWERED[Math.min(call, 36)]++;
        }
        same(what, got, due, text, seed);
    }

    private static void same(String call, long got, long due, String text, int seed) {
        calls++;
        if (got != due) {
            wrong++;
            System.out.println("run " + seed + ": " + call + " answered " + got + ", due is " + due + " in [" + text + "]");
        }
    }
}
