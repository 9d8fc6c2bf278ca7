import java.util.ArrayList;
import java.util.List;

/** Lands by luck, sound ones and broken ones. */
final class Texts {
    private Texts() { }

    static String sound(Luck luck, int size) {
        StringBuilder text = new StringBuilder();
        int places = luck.between(1, size >= 2 ? 8 : 4);
        for (int i = 0; i < places; i++) {
            text.append("place ").append(name("p", i));
            if (luck.oneIn(3)) {
                text.append(" calm ").append(luck.below(luck.oneIn(2) ? 10 : 3));
            }
            if (luck.oneIn(3)) {
                text.append(" echo ").append(luck.below(10));
            }
            text.append(end(luck));
        }
        int ways = places < 2 ? 0 : luck.between(0, size >= 2 ? 14 : 6);
        int miles = luck.oneIn(4) ? 40 : luck.between(1, 9);
        for (int i = 0; i < ways; i++) {
            int from = luck.below(places);
            int to = (from + 1 + luck.below(places - 1)) % places;
            text.append("way ").append(name("p", from)).append(" to ").append(name("p", to)).append(' ');
            text.append(luck.between(1, miles));
            if (luck.oneIn(3)) {
                text.append(" sight ").append(luck.oneIn(2) ? "-" : "").append(luck.oneIn(3) ? luck.below(10) : luck.below(3));
            }
            text.append(end(luck));
        }
        int souls = luck.between(1, size >= 2 ? 6 : 3);
        for (int i = 0; i < souls; i++) {
            text.append("soul ").append(name("s", i)).append(" stubborn ").append(luck.below(10));
            text.append(" short ").append(luck.below(10)).append(end(luck));
        }
        int matters = luck.between(1, size >= 2 ? 6 : 3);
        for (int i = 0; i < matters; i++) {
            text.append("matter ").append(name("m", i)).append(" burns ").append(luck.between(1, luck.oneIn(2) ? 99 : 12));
            text.append(" of");
            int griefs = luck.between(1, 8);
            for (int k = 0; k < griefs; k++) {
                text.append(' ').append(luck.between(1, 9));
            }
            text.append(end(luck));
        }
        rules(luck, text);
        if (luck.oneIn(2)) {
            text.append("draw ").append(luck.below(1000)).append(end(luck));
        }
        return text.toString();
    }

    /** Rules by luck, and rules by which a quarrel is neither very short nor endless. */
    private static void rules(Luck luck, StringBuilder text) {
        int kind = luck.below(5);
        if (kind == 0) {
            text.append("heat ").append(formula(luck, luck.between(1, 20))).append(end(luck));
            text.append("back ").append(formula(luck, luck.between(1, 20))).append(end(luck));
        } else if (kind == 1) {
            text.append("back grief - ").append(luck.between(1, 3)).append(end(luck));
        } else if (kind == 2) {
            text.append("heat heat + (grief - stubborn) * (mile % 2) / 2 - 1").append(end(luck));
            text.append("back grief - (short > mile % 7) - 1").append(end(luck));
        } else if (kind == 3) {
            text.append("heat heat + grief / 2 - stubborn").append(end(luck));
            text.append("back not mile % 3 * (short + left) or grief * (short > 4)").append(end(luck));
        } else if (luck.oneIn(2)) {
            text.append("back (short + grief * mile) % (stubborn + 3)").append(end(luck));
        }
    }

    private static String end(Luck luck) {
        return luck.of(";", " ;", ";\n", " ; ", ";");
    }

    private static String name(String first, int i) {
        return first + (char) ('a' + i);
    }

    static String formula(Luck luck, int units) {
        if (units <= 1) {
            return luck.of("heat", "grief", "stubborn", "short", "mile", "left", "" + luck.below(10), "" + luck.below(10000));
        }
        if (luck.oneIn(4)) {
            return "(" + formula(luck, units - 1) + ")";
        }
        if (luck.oneIn(6)) {
            return "(not " + formula(luck, units - 1) + ")";
        }
        int left = luck.between(1, units - 1);
        String sign = luck.of("+", "-", "*", "/", "%", "<", ">", "=", " and ", " or ", "+", "-");
        return bracket(luck, formula(luck, left)) + luck.of("", " ") + sign + luck.of("", " ") + bracket(luck, formula(luck, units - left));
    }

    private static String bracket(Luck luck, String formula) {
        return luck.oneIn(4) ? "(" + formula + ")" : formula;
    }

    static String broken(Luck luck, String text) {
        String broken = text;
        for (int i = luck.between(1, 2); i > 0; i--) {
            broken = luck.oneIn(2) ? breakByte(luck, broken) : breakToken(luck, broken);
        }
        return broken.substring(0, Math.min(broken.length(), 1600));
    }

    private static String breakByte(Luck luck, String text) {
        if (text.isEmpty()) {
            return "p";
        }
        int at = luck.below(text.length());
        String sign = luck.of("a", "z", "0", "9", ";", "(", ")", "<", "-", " ", "\n", "\t", "A", "_", "\u00e9", "%", "{");
        switch (luck.below(4)) {
            case 0:
                return text.substring(0, at) + sign + text.substring(at);
            case 1:
                return text.substring(0, at) + sign + text.substring(at + 1);
            case 2:
                return text.substring(0, at) + text.substring(at + 1);
            default:
                return text.substring(0, at);
        }
    }

    private static String breakToken(Luck luck, String text) {
        List<String> tokens = new ArrayList<>();
        for (String part : text.split("(?<=[^a-z0-9])|(?=[^a-z0-9])")) {
            tokens.add(part);
        }
        if (tokens.isEmpty()) {
            return text;
        }
        int at = luck.below(tokens.size());
        String other = luck.of("place", "calm", "echo", "way", "to", "sight", "soul", "stubborn", "short", "matter", "burns",
            "of", "heat", "back", "draw", "or", "and", "not", "grief", "mile", "left", "(", ")", ";", "=", "<", "-", "10",
            "99", "100", "0", "41", "1000", "12345", "12a", "toolongnm", "pa", "pb", "sa", "ma", "x",
            "place x;", "soul x stubborn 1 short 1;", "heat 1;", "back 1;", "draw 1;", "not not not not not", "((((");
        switch (luck.below(4)) {
            case 0:
                tokens.set(at, other);
                break;
            case 1:
                tokens.add(at, " " + other + " ");
                break;
            case 2:
                tokens.remove(at);
                break;
            default:
                tokens.set(at, tokens.get(luck.below(tokens.size())));
                break;
        }
        return String.join("", tokens);
    }
}
