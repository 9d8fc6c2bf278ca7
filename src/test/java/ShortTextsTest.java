/** Promises 4, 5, 9, 38: every text of few tokens behind some beginnings; land, FAULT and answers are those of the model. */
public final class ShortTextsTest {
    private static final String[] IN_LINES = {"place ", "a ", "b ", "calm ", "echo ", "way ", "to ", "sight ", "-", "5 ",
        "41 ", "0 ", ";", "soul ", "stubborn ", "short ", "matter ", "burns ", "of ", "draw ", "heat ", "back ", "( ", "x "};
    private static final String[] LINES = {"", "place a;", "place a;place b;", "place a;place b;way a to b 5 ",
        "soul a stubborn 5 ", "matter a burns 5 of "};

    private static final String[] IN_FORMULAS = {"not ", "( ", ") ", "7 ", "heat ", "< ", "+ ", "* ", "and ", "or ", "; "};
    private static final String QUARREL = "soul a stubborn 1 short 2;soul b stubborn 3 short 4;matter m burns 9 of 3 5;";

    /** What the first WORD of that QUARREL knows. */
    private static final int[] FIRST_WORD = {9, 5, 1, 2, 1, 1};

    private static QuarrelMiles x = new QuarrelMiles();
    private static int calls = 0;
    private static long texts = 0;
    private static long sound = 0;

    public static void main(String[] args) {
        Checks.part("short texts");
        for (String beginning : LINES) {
            lookAt(beginning, IN_LINES, 7);
        }
        lookAt(QUARREL + "heat ", IN_FORMULAS, 8);
        Checks.due("many texts, " + texts, texts > 400000, true);
        Checks.due("many sound ones, " + sound, sound > 4000, true);
        System.out.println(texts + " texts, " + sound + " of them sound");
        Checks.close();
    }

    /** A text goes on if it is sound, or if nothing is wrong with it but that it ends. */
    private static void lookAt(String text, String[] tokens, int more) {
        int fault = compare(text);
        if (more > 0 && (fault == -1 || fault == text.length())) {
            for (String token : tokens) {
                lookAt(text + token, tokens, more - 1);
            }
        }
    }

    /** Where the FAULT is. */
    private static int compare(String text) {
        texts++;
        land(text);
        try {
            Model.Text told = new Model.Text(text);
            sound++;
            same("fault(0)", text, x.fault(0), 0);
            same("fault(1)", text, x.fault(1), -1);
            tells(text, told);
            return -1;
        } catch (Model.Fault fault) {
            same("fault(0)", text, x.fault(0), fault.what);
            same("fault(1)", text, x.fault(1), fault.place);
            return fault.place;
        }
    }

    private static void tells(String text, Model.Text told) {
        same("about(0)", text, x.about(0), told.places.size());
        same("about(1)", text, x.about(1), told.ways.size());
        same("about(2)", text, x.about(2), told.souls.size());
        same("about(3)", text, x.about(3), told.matters.size());
        same("about(4)", text, x.about(4), Math.max(0, told.draw));
        same("about(12)", text, x.about(12), told.units);
        if (text.startsWith(QUARREL) && told.heat != null) {
            int heat = Math.min(99, Math.max(0, told.heat.value(FIRST_WORD)));
            same("heat(0, 1, 0, 1)", text, x.heat(0, 1, 0, 1), heat);
        }
    }

    private static void land(String text) {
        if (calls > 400) {
            x = new QuarrelMiles();
            calls = 0;
        }
        for (int at = 0; at < text.length(); at += 20) {
            x.feed(four(text, at), four(text, at + 4), four(text, at + 8), four(text, at + 12), four(text, at + 16));
        }
        x.end(text.length());
        x.land();
        calls += text.length() / 20 + 12;
    }

    private static int four(String text, int at) {
        int number = 0;
        for (int i = at; i < at + 4; i++) {
            number = number << 8 | (i < text.length() ? text.charAt(i) : ' ');
        }
        return number;
    }

    private static void same(String call, String text, int got, int want) {
        if (got != want) {
            Checks.due(call + " of [" + text + "]", got, want);
        }
    }
}
