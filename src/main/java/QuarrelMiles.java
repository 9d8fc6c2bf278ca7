/**
 * Mountains in which a way is as long as two who set out quarrelling are still at it.
 * Nothing is made after the constructor: every row that a call needs stands here already.
 */
public final class QuarrelMiles {
    public static final int NONE = -1;

    private static final int CANNOT = -2;

    private static final int MOST_BYTES = 1600;
    private static final int FED_BYTES = 20;

    private static final int PLACES = 8;
    private static final int WAYS = 14;
    private static final int SOULS = 6;
    private static final int MATTERS = 6;
    private static final int GRIEFS = 8;
    private static final int LETTERS = 8;
    private static final int DIGITS = 4;
    private static final int UNITS = 30;
    private static final int OTHERS_AROUND = 6;

    private static final int MOST_HEAT = 99;
    private static final int MOST_GRIEF = 9;
    private static final int MOST_TEMPER = 9;
    private static final int PILE = 20;
    private static final int ECHO_BELOW = 20;
    private static final int SEA = 200;

    private static final int MOST_WORDS = 60;
    private static final int ACTS = 40;
    private static final int BOXES = 3;
    private static final int ROUTE_WAYS = 12;
    private static final int HOME_WAYS = 4;

    private static final int ROAD = 60;
    private static final int REPORTS = 30;
    private static final int MOST_LATER = 1000;
    private static final int MOST_TIME = 100000;
    private static final long ALL_ROADS = (1L << ROAD) - 1L;

    /** A COUPLE is one number: 100 * the first SOUL, 10 * the second one and the MATTER. */
    private static final int CODES = 600;
    private static final int COUPLES = SOULS * (SOULS - 1) * MATTERS;

    /** How many numbers keep what a Talk holds, and what Earnest holds. */
    private static final int TALK = 4 + PILE;
    private static final int STATE = 2 * SOULS + 5 + TALK;

    /** Further than any row of WAYS can be. */
    private static final int FAR = 1000000;

    // Kinds of tokens; a sign's kind is the sign itself, a keyword's its number in KEYWORDS behind 256.
    private static final int END = 0;
    private static final int BAD = 1;
    private static final int NUMBER = 2;
    private static final int NAME = 3;
    private static final String KEYWORDS =
        "place calm echo way to sight soul stubborn short matter burns of heat back draw or and not grief mile left ";
    private static final int FIRST_KEYWORD = 256;
    private static final int PLACE = 256;
    private static final int CALM = 257;
    private static final int ECHO = 258;
    private static final int WAY = 259;
    private static final int TO = 260;
    private static final int SIGHT = 261;
    private static final int SOUL = 262;
    private static final int STUBBORN = 263;
    private static final int SHORT = 264;
    private static final int MATTER = 265;
    private static final int BURNS = 266;
    private static final int OF = 267;
    private static final int HEAT = 268;
    private static final int BACK = 269;
    private static final int DRAW = 270;
    private static final int OR = 271;
    private static final int AND = 272;
    private static final int NOT = 273;
    private static final int GRIEF = 274;
    private static final int MILE = 275;
    private static final int LEFT = 276;

    private static final int NO_TOKEN = 1;
    private static final int CANNOT_STAND = 2;
    private static final int TOLD_ALREADY = 3;
    private static final int CANNOT_BE = 4;
    private static final int NO_SUCH_PLACE = 5;

    // What a formula knows of a WORD, by number.
    private static final int KNOWN = 6;
    private static final int KNOWN_HEAT = 0;
    private static final int KNOWN_GRIEF = 1;
    private static final int KNOWN_STUBBORN = 2;
    private static final int KNOWN_SHORT = 3;
    private static final int KNOWN_MILE = 4;
    private static final int KNOWN_LEFT = 5;

    // How tightly operators bind; a bracket, and what is no operator, binds nothing.
    private static final int BINDS_NOTHING = 0;
    private static final int BINDS_OR = 1;
    private static final int BINDS_AND = 2;
    private static final int BINDS_NOT = 3;
    private static final int BINDS_RELATION = 4;
    private static final int BINDS_SUM = 5;
    private static final int BINDS_TERM = 6;

    private final byte[] tape;
    private int taped;
    private final Land told;
    private final Land trial;
    private final Reader reader;
    private final Earnest earnest;
    private final Row route;
    private final Stroll stroll;
    private final Finder finder;
    private final Reports reports;

    public QuarrelMiles() {
        tape = new byte[MOST_BYTES];
        taped = 0;
        told = new Land();
        trial = new Land();
        reader = new Reader(new Tokens(tape));
        earnest = new Earnest(told);
        route = new Row();
        stroll = new Stroll(told);
        finder = new Finder(told, earnest.tempers);
        reports = new Reports(told);
    }

    public int feed(int a, int b, int c, int d, int e) {
        if (taped > MOST_BYTES - FED_BYTES) {
            return NONE;
        }
        tapeNumber(a);
        tapeNumber(b);
        tapeNumber(c);
        tapeNumber(d);
        tapeNumber(e);
        return taped;
    }

    private void tapeNumber(int number) {
        for (int shift = 24; shift >= 0; shift -= 8) {
            if (taped >= 0 && taped < tape.length) {
                tape[taped] = (byte) (number >> shift);
                taped++;
            }
        }
    }

    public int end(int n) {
        if (n < 0 || n > taped) {
            return NONE;
        }
        taped = n;
        return n;
    }

    public int land() {
        int bytes = taped;
        taped = 0;
        if (!reader.readLand(trial, bytes)) {
            return NONE;
        }
        // A FAULT leaves all as it is, so the text is tried first and then read for good.
        reader.readLand(told, bytes);
        earnest.beginAnew();
        route.reset(NONE);
        finder.layNothing();
        reports.forget();
        return told.places;
    }

    public int fault(int what) {
        if (what == 0) {
            return reader.fault;
        }
        return what == 1 ? reader.faultPlace : NONE;
    }

    public int soul(int soul, int what) {
        if (!told.isSoul(soul) || what < 0 || what > 1) {
            return NONE;
        }
        return earnest.tempers[2 * soul + what];
    }

    public int way(int way, int what) {
        if (!told.isWay(way)) {
            return NONE;
        }
        switch (what) {
            case 0:
                return told.from[way];
            case 1:
                return told.to[way];
            case 2:
                return told.length[way];
            default:
                return NONE;
        }
    }

    public int quarrel(int one, int other, int matter) {
        int couple = told.couple(one, other, matter);
        if (couple == NONE) {
            return CANNOT;
        }
        stroll.talk.begin(couple);
        return stroll.talk.talkOpenly(earnest.tempers, SEA);
    }

    public int heat(int one, int other, int matter, int words) {
        int couple = told.couple(one, other, matter);
        if (couple == NONE || words < 0 || words > SEA) {
            return CANNOT;
        }
        stroll.talk.begin(couple);
        stroll.talk.talkOpenly(earnest.tempers, words);
        return stroll.talk.heat;
    }

    public int setOut(int one, int other, int matter, int place) {
        int couple = told.couple(one, other, matter);
        if (couple == NONE || !told.isPlace(place)) {
            return NONE;
        }
        earnest.beginWalk(couple, place);
        return 1;
    }

    public int take(int way) {
        return earnest.takeWay(way);
    }

    public int words(int n) {
        if (n < 0 || n > MOST_WORDS) {
            return NONE;
        }
        return earnest.sayWords(n);
    }

    public int year() {
        return earnest.passYear();
    }

    public int walk(int what) {
        return earnest.tellWalk(what);
    }

    public boolean undo() {
        return earnest.takeBack();
    }

    public boolean redo() {
        return earnest.doAgain();
    }

    public int start(int place) {
        if (!told.isPlace(place)) {
            return NONE;
        }
        route.reset(place);
        return 1;
    }

    public int step(int way) {
        return route.append(told, way) ? route.count : NONE;
    }

    public int walked(int one, int other, int matter, int what) {
        int couple = told.couple(one, other, matter);
        if (couple == NONE || route.end == NONE || what < 0 || what > 3) {
            return CANNOT;
        }
        stroll.begin(couple);
        boolean isOver = stroll.goOn(earnest.tempers, route);
        if (what == 3) {
            return stroll.talk.heat;
        }
        if (!isOver) {
            return NONE;
        }
        if (what == 0) {
            return stroll.talk.words;
        }
        return what == 1 ? stroll.number : stroll.mile;
    }

    public int shortest(int from, int to) {
        return finder.layShortest(from, to);
    }

    public int send(int from, int to) {
        return finder.laySent(from, to);
    }

    public int measure(int one, int other, int matter, int way, boolean isBack) {
        int couple = told.couple(one, other, matter);
        if (couple == NONE || !told.isWay(way)) {
            return NONE;
        }
        finder.setPath(way, isBack);
        return finder.measurePath(couple);
    }

    public int adds(int way, int other) {
        if (!told.isWay(way) || !told.isWay(other) || told.to[way] != told.from[other]) {
            return NONE;
        }
        return finder.countAdding(way, other);
    }

    public int fair() {
        return finder.countFair();
    }

    public int cover() {
        finder.lookForEndings();
        return finder.layCover();
    }

    public int turned() {
        return finder.countTurned();
    }

    public int loud(int one, int other, int matter, int what) {
        int couple = told.couple(one, other, matter);
        if (couple == NONE || what < 0 || what > 1) {
            return CANNOT;
        }
        Talk talk = stroll.talk;
        int loudest = NONE;
        int first = 0;
        talk.begin(couple);
        for (int i = 0; i < SEA && !talk.isOver(); i++) {
            talk.say(earnest.tempers);
            if (talk.heat > loudest) {
                loudest = talk.heat;
                first = talk.words;
            }
        }
        return what == 0 ? loudest : first;
    }

    public int home(int one, int other, int matter, int from, int to, int n) {
        return finder.layHome(told.couple(one, other, matter), from, to, n);
    }

    public int temper(int one, int other, int matter, int miles) {
        return finder.layTempers(told.couple(one, other, matter), miles);
    }

    public int lies(int i) {
        return finder.tellLying(i);
    }

    public int report(int one, int other, int matter, int what) {
        int couple = told.couple(one, other, matter);
        if (couple == NONE || what < 0 || what > 2) {
            return NONE;
        }
        return reports.tell(couple, what);
    }

    public boolean untell(int report) {
        return reports.takeBack(report);
    }

    public int later(int by) {
        return reports.passTime(by);
    }

    public long miles(int k) {
        return reports.roadsKnownAt(k);
    }

    public int ask(int what, int k) {
        return reports.findQuestion(what, k);
    }

    public int image(int box) {
        return earnest.keep(box);
    }

    public int back(int box) {
        return earnest.goBack(box);
    }

    public int about(int what) {
        switch (what) {
            case 0:
                return told.places;
            case 1:
                return told.ways;
            case 2:
                return told.souls;
            case 3:
                return told.matters;
            case 4:
                return earnest.seed;
            case 5:
                return earnest.undoable;
            case 6:
                return earnest.redoable;
            case 7:
                return route.end == NONE ? NONE : route.count;
            case 8:
                return route.end;
            case 9:
                return reports.count;
            case 10:
                return reports.time;
            case 11:
                return taped;
            case 12:
                return told.heatRule.units + told.backRule.units;
            case 13:
                return finder.lyingCount;
            default:
                return NONE;
        }
    }

    private static int within(int low, int value, int high) {
        if (value < low) {
            return low;
        }
        return value > high ? high : value;
    }

    /** A formula as steps in which an operator stands behind what it works on. */
    private static final class Formula {
        // At most 30 units, an operator between two of them and 7 nots ahead of each: fewer than 320.
        private final int[] steps = new int[320];
        private final int[] stack = new int[UNITS + 2];
        int count;
        int units;

        void clear() {
            count = 0;
            units = 0;
        }

        boolean isTold() {
            return count > 0;
        }

        void addNumber(int number) {
            add(number);
        }

        void addKnown(int known) {
            add(-1 - known);
        }

        void addOperator(int kind) {
            add(-kind);
        }

        private void add(int code) {
            if (count >= 0 && count < steps.length) {
                steps[count] = code;
                count++;
            }
        }

        boolean asksFor(int known) {
            for (int i = 0; i < count && i < steps.length; i++) {
                if (steps[i] == -1 - known) {
                    return true;
                }
            }
            return false;
        }

        int answer(int[] known, int untold) {
            int top = 0;
            for (int i = 0; i < count && i < steps.length; i++) {
                int code = steps[i];
                if (code >= -KNOWN) {
                    if (top >= stack.length || -1 - code >= known.length) {
                        return untold;
                    }
                    stack[top] = code >= 0 ? code : known[-1 - code];
                    top++;
                } else if (code == -NOT) {
                    if (top < 1) {
                        return untold;
                    }
                    stack[top - 1] = stack[top - 1] == 0 ? 1 : 0;
                } else {
                    if (top < 2) {
                        return untold;
                    }
                    top--;
                    stack[top - 1] = join(-code, stack[top - 1], stack[top]);
                }
            }
            return top == 1 ? stack[0] : untold;
        }

        private static int join(int kind, int a, int b) {
            switch (kind) {
                case '+':
                    return a + b;
                case '-':
                    return a - b;
                case '*':
                    return a * b;
                case '/':
                    return b == 0 ? 0 : a / b;
                case '%':
                    return b == 0 ? 0 : a % b;
                case '<':
                    return a < b ? 1 : 0;
                case '>':
                    return a > b ? 1 : 0;
                case '=':
                    return a == b ? 1 : 0;
                case AND:
                    return a != 0 && b != 0 ? 1 : 0;
                case OR:
                    return a != 0 || b != 0 ? 1 : 0;
                default:
                    return 0;
            }
        }
    }

    /** What a text tells: PLACES, WAYS, SOULS, MATTERS, each with its NAME as a number. */
    private static final class Land {
        int places;
        final long[] placeNames = new long[PLACES];
        final int[] calm = new int[PLACES];
        final int[] echo = new int[PLACES];
        int ways;
        final int[] from = new int[WAYS];
        final int[] to = new int[WAYS];
        final int[] length = new int[WAYS];
        final int[] sight = new int[WAYS];
        int souls;
        final long[] soulNames = new long[SOULS];
        /** How stubborn and how short each SOUL is told to be, by turns. */
        final int[] tempers = new int[2 * SOULS];
        int matters;
        final long[] matterNames = new long[MATTERS];
        final int[] burns = new int[MATTERS];
        final int[] griefCounts = new int[MATTERS];
        final int[] griefs = new int[MATTERS * GRIEFS];
        int draw;
        final Formula heatRule = new Formula();
        final Formula backRule = new Formula();

        void clear() {
            places = 0;
            ways = 0;
            souls = 0;
            matters = 0;
            draw = 0;
            heatRule.clear();
            backRule.clear();
        }

        boolean isPlace(int place) {
            return place >= 0 && place < places && place < PLACES;
        }

        boolean isWay(int way) {
            return way >= 0 && way < ways && way < WAYS;
        }

        boolean isSoul(int soul) {
            return soul >= 0 && soul < souls && soul < SOULS;
        }

        boolean isMatter(int matter) {
            return matter >= 0 && matter < matters && matter < MATTERS;
        }

        /** The number of a COUPLE, or NONE if it can't be. */
        int couple(int one, int other, int matter) {
            if (!isSoul(one) || !isSoul(other) || one == other || !isMatter(matter)) {
                return NONE;
            }
            return 100 * one + 10 * other + matter;
        }

        boolean isCouple(int couple) {
            return couple >= 0 && couple(couple / 100, couple / 10 % 10, couple % 10) == couple;
        }

        /** Where a WAY leads from a PLACE; NONE if it does not begin or end there. */
        int otherEnd(int way, int place) {
            if (!isWay(way)) {
                return NONE;
            }
            if (from[way] == place) {
                return to[way];
            }
            return to[way] == place ? from[way] : NONE;
        }
    }

    /** The text as tokens, one at a time. */
    private static final class Tokens {
        private final byte[] text;
        private int length;
        private int next;
        int kind;
        int place;
        int value;
        long name;

        Tokens(byte[] text) {
            this.text = text;
        }

        void open(int bytes) {
            length = within(0, bytes, text.length);
            next = 0;
            move();
        }

        private int sign(int at) {
            return at >= 0 && at < length && at < text.length ? text[at] : NONE;
        }

        void move() {
            while (next < length && isBlank(sign(next))) {
                next++;
            }
            place = next;
            int first = sign(next);
            if (next >= length) {
                kind = END;
            } else if (isLetter(first)) {
                takeWord();
            } else if (isDigit(first)) {
                takeNumber();
            } else {
                next++;
                kind = isSign(first) ? first : BAD;
            }
        }

        private void takeWord() {
            name = 0L;
            while (next < length && isLetter(sign(next))) {
                name = 32L * name + (sign(next) - 'a' + 1);
                next++;
            }
            kind = next - place > LETTERS ? BAD : NAME;
            int keyword = FIRST_KEYWORD;
            long word = 0L;
            for (int i = 0; i < KEYWORDS.length() && kind == NAME; i++) {
                char letter = KEYWORDS.charAt(i);
                if (letter != ' ') {
                    word = 32L * word + (letter - 'a' + 1);
                } else if (word == name) {
                    kind = keyword;
                } else {
                    keyword++;
                    word = 0L;
                }
            }
        }

        private void takeNumber() {
            value = 0;
            while (next < length && isDigit(sign(next))) {
                value = 10 * value + (sign(next) - '0');
                next++;
            }
            kind = next - place > DIGITS || isLetter(sign(next)) ? BAD : NUMBER;
        }

        private static boolean isBlank(int sign) {
            return sign == 32 || sign == 10;
        }

        private static boolean isLetter(int sign) {
            return sign >= 'a' && sign <= 'z';
        }

        private static boolean isDigit(int sign) {
            return sign >= '0' && sign <= '9';
        }

        private static boolean isSign(int sign) {
            switch (sign) {
                case ';':
                case '(':
                case ')':
                case '<':
                case '>':
                case '=':
                case '+':
                case '-':
                case '*':
                case '/':
                case '%':
                    return true;
                default:
                    return false;
            }
        }
    }

    /**
     * Reads an e. What waits for its right side stands on a stack, with the brackets and the nots:
     * so their number there tells how deep a token is, and no call has to call itself.
     */
    private static final class FormulaReader {
        private static final int WANTS_ONE = 1;
        private static final int WANTS_UNIT = 2;
        private static final int WANTS_MORE = 3;

        private final Tokens tokens;
        private final int[] waiting = new int[2 * UNITS];
        private int count;
        private int brackets;
        private int around;

        FormulaReader(Tokens tokens) {
            this.tokens = tokens;
        }

        /** False if the token now can't stand there. */
        boolean readFormula(Formula formula) {
            formula.clear();
            count = 0;
            brackets = 0;
            around = 0;
            int wants = WANTS_ONE;
            for (int i = 0; i <= MOST_BYTES; i++) {
                if (wants == WANTS_MORE && tokens.kind == ';' && brackets == 0) {
                    settle(formula, BINDS_OR);
                    return true;
                }
                wants = wants == WANTS_MORE ? readBehindUnit(formula) : readUnit(formula, wants);
                if (wants == NONE) {
                    return false;
                }
                tokens.move();
            }
            return false;
        }

        private int readUnit(Formula formula, int wants) {
            int kind = tokens.kind;
            if (kind == NOT) {
                return wants == WANTS_ONE && nest(NOT) ? WANTS_ONE : NONE;
            }
            if (formula.units >= UNITS) {
                return NONE;
            }
            if (kind == '(') {
                if (!nest('(')) {
                    return NONE;
                }
                brackets++;
                formula.units++;
                return WANTS_ONE;
            }
            int known = knownBy(kind);
            if (kind == NUMBER) {
                formula.addNumber(tokens.value);
            } else if (known != NONE) {
                formula.addKnown(known);
            } else {
                return NONE;
            }
            formula.units++;
            return WANTS_MORE;
        }

        private int readBehindUnit(Formula formula) {
            int kind = tokens.kind;
            if (kind == ')') {
                if (brackets == 0) {
                    return NONE;
                }
                settle(formula, BINDS_OR);
                count--;
                brackets--;
                around--;
                return WANTS_MORE;
            }
            int binds = bindingOf(kind);
            if (binds == BINDS_NOTHING || binds == BINDS_NOT) {
                return NONE;
            }
            // A second relation in one is no operator any more: the first one must not be settled by it.
            settle(formula, binds == BINDS_RELATION ? BINDS_SUM : binds);
            if (binds == BINDS_RELATION && bindingOnTop() == BINDS_RELATION) {
                return NONE;
            }
            if (!await(kind)) {
                return NONE;
            }
            return binds < BINDS_NOT ? WANTS_ONE : WANTS_UNIT;
        }

        private boolean nest(int kind) {
            if (around > OTHERS_AROUND || !await(kind)) {
                return false;
            }
            around++;
            return true;
        }

        private boolean await(int kind) {
            if (count < 0 || count >= waiting.length) {
                return false;
            }
            waiting[count] = kind;
            count++;
            return true;
        }

        private int bindingOnTop() {
            return count > 0 && count <= waiting.length ? bindingOf(waiting[count - 1]) : BINDS_NOTHING;
        }

        /** All that binds at least so tightly has its right side now. */
        private void settle(Formula formula, int binds) {
            while (count > 0 && count <= waiting.length && bindingOnTop() >= binds) {
                count--;
                formula.addOperator(waiting[count]);
                if (waiting[count] == NOT) {
                    around--;
                }
            }
        }

        private static int knownBy(int kind) {
            switch (kind) {
                case HEAT:
                    return KNOWN_HEAT;
                case GRIEF:
                    return KNOWN_GRIEF;
                case STUBBORN:
                    return KNOWN_STUBBORN;
                case SHORT:
                    return KNOWN_SHORT;
                case MILE:
                    return KNOWN_MILE;
                case LEFT:
                    return KNOWN_LEFT;
                default:
                    return NONE;
            }
        }

        private static int bindingOf(int kind) {
            switch (kind) {
                case OR:
                    return BINDS_OR;
                case AND:
                    return BINDS_AND;
                case NOT:
                    return BINDS_NOT;
                case '<':
                case '>':
                case '=':
                    return BINDS_RELATION;
                case '+':
                case '-':
                    return BINDS_SUM;
                case '*':
                case '/':
                case '%':
                    return BINDS_TERM;
                default:
                    return BINDS_NOTHING;
            }
        }
    }

    /** Reads a text, from left to right, up to its first FAULT. */
    private static final class Reader {
        private final Tokens tokens;
        private final FormulaReader formulas;
        int fault;
        int faultPlace;
        private int number;
        private boolean isDrawTold;

        Reader(Tokens tokens) {
            this.tokens = tokens;
            formulas = new FormulaReader(tokens);
            fault = 0;
            faultPlace = NONE;
        }

        boolean readLand(Land land, int bytes) {
            land.clear();
            fault = 0;
            faultPlace = NONE;
            isDrawTold = false;
            tokens.open(bytes);
            boolean isFine = true;
            for (int lines = 0; lines <= MOST_BYTES && isFine && tokens.kind != END; lines++) {
                switch (tokens.kind) {
                    case PLACE:
                        isFine = readPlace(land);
                        break;
                    case WAY:
                        isFine = readWay(land);
                        break;
                    case SOUL:
                        isFine = readSoul(land);
                        break;
                    case MATTER:
                        isFine = readMatter(land);
                        break;
                    case HEAT:
                        isFine = readRule(land.heatRule);
                        break;
                    case BACK:
                        isFine = readRule(land.backRule);
                        break;
                    case DRAW:
                        isFine = readDraw(land);
                        break;
                    default:
                        isFine = refuse();
                        break;
                }
                isFine = isFine && expect(';');
            }
            return isFine;
        }

        private boolean readPlace(Land land) {
            int place = land.places;
            if (place < 0 || place >= PLACES) {
                return refuse();
            }
            tokens.move();
            if (!readNewName(land.placeNames, place)) {
                return false;
            }
            land.calm[place] = 0;
            land.echo[place] = 0;
            if (tokens.kind == CALM) {
                if (!readNumberBehind(CALM, 0, 9)) {
                    return false;
                }
                land.calm[place] = number;
            }
            if (tokens.kind == ECHO) {
                if (!readNumberBehind(ECHO, 0, 9)) {
                    return false;
                }
                land.echo[place] = number;
            }
            land.places++;
            return true;
        }

        private boolean readWay(Land land) {
            int way = land.ways;
            if (way < 0 || way >= WAYS) {
                return refuse();
            }
            tokens.move();
            if (!readPlaceName(land, NONE)) {
                return false;
            }
            land.from[way] = number;
            if (!expect(TO) || !readPlaceName(land, land.from[way])) {
                return false;
            }
            land.to[way] = number;
            if (!readNumber(1, 40)) {
                return false;
            }
            land.length[way] = number;
            land.sight[way] = 0;
            if (tokens.kind == SIGHT) {
                tokens.move();
                if (!readSight()) {
                    return false;
                }
                land.sight[way] = number;
            }
            land.ways++;
            return true;
        }

        private boolean readSight() {
            int place = tokens.place;
            boolean isLess = tokens.kind == '-';
            if (isLess) {
                tokens.move();
            }
            if (tokens.kind != NUMBER) {
                return refuse();
            }
            if (tokens.value > 9) {
                return fail(CANNOT_BE, place);
            }
            number = isLess ? -tokens.value : tokens.value;
            tokens.move();
            return true;
        }

        private boolean readSoul(Land land) {
            int soul = land.souls;
            if (soul < 0 || soul >= SOULS) {
                return refuse();
            }
            tokens.move();
            if (!readNewName(land.soulNames, soul) || !readNumberBehind(STUBBORN, 0, MOST_TEMPER)) {
                return false;
            }
            land.tempers[2 * soul] = number;
            if (!readNumberBehind(SHORT, 0, MOST_TEMPER)) {
                return false;
            }
            land.tempers[2 * soul + 1] = number;
            land.souls++;
            return true;
        }

        private boolean readMatter(Land land) {
            int matter = land.matters;
            if (matter < 0 || matter >= MATTERS) {
                return refuse();
            }
            tokens.move();
            if (!readNewName(land.matterNames, matter) || !readNumberBehind(BURNS, 1, MOST_HEAT)) {
                return false;
            }
            land.burns[matter] = number;
            if (!readNumberBehind(OF, 1, MOST_GRIEF)) {
                return false;
            }
            land.griefs[matter * GRIEFS] = number;
            int griefs = 1;
            while (griefs < GRIEFS && tokens.kind == NUMBER) {
                if (!readNumber(1, MOST_GRIEF)) {
                    return false;
                }
                land.griefs[matter * GRIEFS + griefs] = number;
                griefs++;
            }
            land.griefCounts[matter] = griefs;
            land.matters++;
            return true;
        }

        private boolean readRule(Formula rule) {
            if (rule.isTold()) {
                return refuse();
            }
            tokens.move();
            return formulas.readFormula(rule) || refuse();
        }

        private boolean readDraw(Land land) {
            if (isDrawTold) {
                return refuse();
            }
            isDrawTold = true;
            if (!readNumberBehind(DRAW, 0, 999)) {
                return false;
            }
            land.draw = number;
            return true;
        }

        /** A NAME that none of the first so many has; it becomes the next one's. */
        private boolean readNewName(long[] names, int count) {
            if (tokens.kind != NAME) {
                return refuse();
            }
            if (indexOf(names, count, tokens.name) != NONE) {
                return fail(TOLD_ALREADY, tokens.place);
            }
            if (count >= 0 && count < names.length) {
                names[count] = tokens.name;
            }
            tokens.move();
            return true;
        }

        /** The NAME of a PLACE unlike that one. */
        private boolean readPlaceName(Land land, int unlike) {
            if (tokens.kind != NAME) {
                return refuse();
            }
            int place = indexOf(land.placeNames, land.places, tokens.name);
            if (place == NONE) {
                return fail(NO_SUCH_PLACE, tokens.place);
            }
            if (place == unlike) {
                return fail(TOLD_ALREADY, tokens.place);
            }
            number = place;
            tokens.move();
            return true;
        }

        private static int indexOf(long[] names, int count, long name) {
            for (int i = 0; i < count && i < names.length; i++) {
                if (names[i] == name) {
                    return i;
                }
            }
            return NONE;
        }

        private boolean readNumberBehind(int keyword, int low, int high) {
            return expect(keyword) && readNumber(low, high);
        }

        private boolean readNumber(int low, int high) {
            if (tokens.kind != NUMBER) {
                return refuse();
            }
            if (tokens.value < low || tokens.value > high) {
                return fail(CANNOT_BE, tokens.place);
            }
            number = tokens.value;
            tokens.move();
            return true;
        }

        private boolean expect(int kind) {
            if (tokens.kind != kind) {
                return refuse();
            }
            tokens.move();
            return true;
        }

        private boolean refuse() {
            return fail(tokens.kind == BAD ? NO_TOKEN : CANNOT_STAND, tokens.place);
        }

        private boolean fail(int what, int place) {
            fault = what;
            faultPlace = place;
            return false;
        }
    }

    /** A QUARREL as it goes on, WORD by WORD. */
    private static final class Talk {
        private final Land land;
        private final int[] known = new int[KNOWN];
        private final int[] pile = new int[PILE];
        private int couple;
        int heat;
        int words;
        int griefs;

        Talk(Land land) {
            this.land = land;
        }

        /** The COUPLE must be one that can be. */
        void begin(int couple) {
            int matter = couple % 10;
            if (!land.isMatter(matter)) {
                return;
            }
            this.couple = couple;
            heat = land.burns[matter];
            words = 0;
            griefs = within(0, land.griefCounts[matter], GRIEFS);
            for (int i = 0; i < griefs; i++) {
                pile[i] = land.griefs[matter * GRIEFS + i];
            }
        }

        boolean isOver() {
            return heat <= 0 || griefs <= 0;
        }

        /** A WORD as it is in OPEN country. */
        void say(int[] tempers) {
            int speaker = words % 2 == 0 ? couple / 100 : couple / 10 % 10;
            if (griefs <= 0 || griefs > PILE || !land.isSoul(speaker) || 2 * speaker + 1 >= tempers.length) {
                return;
            }
            griefs--;
            words++;
            known[KNOWN_HEAT] = heat;
            known[KNOWN_GRIEF] = pile[griefs];
            known[KNOWN_STUBBORN] = tempers[2 * speaker];
            known[KNOWN_SHORT] = tempers[2 * speaker + 1];
            known[KNOWN_MILE] = words;
            known[KNOWN_LEFT] = griefs;
            int hotter = land.heatRule.answer(known, heat - 1);
            int answered = land.backRule.answer(known, 0);
            heat = within(0, hotter, MOST_HEAT);
            if (answered > 0) {
                pile[griefs] = Math.min(answered, MOST_GRIEF);
                griefs++;
            }
        }

        /** The WORD that lasts the mile-th MILE of a WAY that is walked to one of its ends. */
        void sayOnWay(int[] tempers, int way, int mile, int end) {
            say(tempers);
            if (!land.isWay(way) || !land.isPlace(end)) {
                return;
            }
            heat = within(0, heat + land.sight[way], MOST_HEAT);
            if (mile < land.length[way]) {
                return;
            }
            heat = Math.max(0, heat - land.calm[end]);
            if (land.echo[end] > 0 && griefs >= 0 && griefs < ECHO_BELOW) {
                pile[griefs] = land.echo[end];
                griefs++;
            }
        }

        /** So many WORDS in OPEN country, till it ENDS: how long it was; NONE if it has not ENDED. */
        int talkOpenly(int[] tempers, int most) {
            for (int i = 0; i < most && !isOver(); i++) {
                say(tempers);
            }
            return isOver() ? words : NONE;
        }

        void put(int[] row, int at) {
            if (at < 0 || at > row.length - TALK) {
                return;
            }
            row[at] = couple;
            row[at + 1] = heat;
            row[at + 2] = words;
            row[at + 3] = griefs;
            for (int i = 0; i < PILE; i++) {
                row[at + 4 + i] = pile[i];
            }
        }

        void bring(int[] row, int at) {
            if (at < 0 || at > row.length - TALK) {
                return;
            }
            couple = row[at];
            heat = row[at + 1];
            words = row[at + 2];
            griefs = row[at + 3];
            for (int i = 0; i < PILE; i++) {
                pile[i] = row[at + 4 + i];
            }
        }
    }

    /** A ROUTE, or none. */
    private static final class Row {
        final int[] ways = new int[ROUTE_WAYS];
        /** The PLACE to which each WAY leads. */
        final int[] ends = new int[ROUTE_WAYS];
        int count;
        int end;

        Row() {
            count = 0;
            end = NONE;
        }

        void reset(int place) {
            count = 0;
            end = place;
        }

        boolean append(Land land, int way) {
            int next = land.otherEnd(way, end);
            if (end == NONE || next == NONE || count < 0 || count >= ROUTE_WAYS) {
                return false;
            }
            ways[count] = way;
            ends[count] = next;
            count++;
            end = next;
            return true;
        }
    }

    /** A couple somewhere along a row of WAYS. */
    private static final class Stroll {
        private final Land land;
        final Talk talk;
        /** On which WAY of the row they are, by number in the row, and behind how many MILES of it. */
        int number;
        int mile;

        Stroll(Land land) {
            this.land = land;
            talk = new Talk(land);
        }

        void begin(int couple) {
            talk.begin(couple);
            number = 0;
            mile = 0;
        }

        /** On till the QUARREL ENDS (true), or to the end of the row. */
        boolean goOn(int[] tempers, Row row) {
            while (number >= 0 && number < row.count && number < ROUTE_WAYS) {
                int way = row.ways[number];
                int length = lengthOf(way);
                while (mile < length) {
                    mile++;
                    talk.sayOnWay(tempers, way, mile, row.ends[number]);
                    if (talk.isOver()) {
                        return true;
                    }
                }
                number++;
                mile = 0;
            }
            return false;
        }

        boolean isAtEnd(Row row) {
            int last = row.count - 1;
            if (number > last || last < 0 || last >= ROUTE_WAYS) {
                return true;
            }
            return number == last && mile >= lengthOf(row.ways[last]);
        }

        private int lengthOf(int way) {
            return land.isWay(way) ? land.length[way] : 0;
        }
    }

    /** Tempers, the SEED and the two who walk; their ACTS, and the BOXES. */
    private static final class Earnest {
        private final Land land;
        final int[] tempers = new int[2 * SOULS];
        int seed;
        private final Talk talk;
        private boolean isWalking;
        private int place;
        private int way;
        private int mile;
        /** All as it was behind each ACT that is kept, in a ring. */
        private final int[] acts = new int[(ACTS + 1) * STATE];
        private int oldest;
        int undoable;
        int redoable;
        private final int[] boxes = new int[BOXES * STATE];
        private final boolean[] isKept = new boolean[BOXES];

        Earnest(Land land) {
            this.land = land;
            talk = new Talk(land);
            beginAnew();
        }

        void beginAnew() {
            for (int i = 0; i < tempers.length; i++) {
                tempers[i] = i < 2 * land.souls ? land.tempers[i] : 0;
            }
            seed = land.draw;
            isWalking = false;
            place = NONE;
            way = NONE;
            mile = 0;
            for (int box = 0; box < BOXES; box++) {
                isKept[box] = false;
            }
            forgetActs();
        }

        void beginWalk(int couple, int from) {
            talk.begin(couple);
            isWalking = true;
            place = from;
            way = NONE;
            mile = 0;
            keepAct();
        }

        int takeWay(int taken) {
            if (!isWalking || way != NONE || talk.isOver() || land.otherEnd(taken, place) == NONE) {
                return NONE;
            }
            way = taken;
            mile = 0;
            keepAct();
            return land.length[taken];
        }

        int sayWords(int most) {
            if (!isWalking) {
                return NONE;
            }
            int said = 0;
            while (said < most && land.isWay(way) && !talk.isOver()) {
                sayOne();
                said++;
            }
            keepAct();
            return said;
        }

        private void sayOne() {
            int end = land.otherEnd(way, place);
            mile++;
            talk.sayOnWay(tempers, way, mile, end);
            if (land.isWay(way) && mile >= land.length[way]) {
                place = end;
                way = NONE;
                mile = 0;
            }
        }

        int passYear() {
            if (land.souls <= 0) {
                return NONE;
            }
            seed = (seed * 137 + 71) % 1000;
            int soul = seed % land.souls;
            int at = seed / 10 % 2 == 0 ? 2 * soul : 2 * soul + 1;
            if (at >= 0 && at < tempers.length) {
                tempers[at] = Math.min(tempers[at] + 1, MOST_TEMPER);
            }
            keepAct();
            return soul;
        }

        int tellWalk(int what) {
            if (!isWalking) {
                return NONE;
            }
            switch (what) {
                case 0:
                    return place;
                case 1:
                    return way;
                case 2:
                    return mile;
                case 3:
                    return talk.words;
                case 4:
                    return talk.heat;
                case 5:
                    return talk.griefs;
                case 6:
                    return talk.isOver() ? 1 : 0;
                default:
                    return NONE;
            }
        }

        boolean takeBack() {
            if (undoable <= 0) {
                return false;
            }
            undoable--;
            redoable++;
            bring(acts, slot());
            return true;
        }

        boolean doAgain() {
            if (redoable <= 0) {
                return false;
            }
            undoable++;
            redoable--;
            bring(acts, slot());
            return true;
        }

        int keep(int box) {
            if (box < 0 || box >= BOXES) {
                return NONE;
            }
            isKept[box] = true;
            put(boxes, box * STATE);
            return wordsInAll();
        }

        int goBack(int box) {
            if (box < 0 || box >= BOXES || !isKept[box]) {
                return NONE;
            }
            bring(boxes, box * STATE);
            forgetActs();
            return wordsInAll();
        }

        private int wordsInAll() {
            return isWalking ? talk.words : 0;
        }

        private void forgetActs() {
            undoable = 0;
            redoable = 0;
            put(acts, slot());
        }

        private void keepAct() {
            redoable = 0;
            if (undoable < ACTS) {
                undoable++;
            } else {
                oldest = (oldest + 1) % (ACTS + 1);
            }
            put(acts, slot());
        }

        private int slot() {
            return (oldest + undoable) % (ACTS + 1) * STATE;
        }

        private void put(int[] row, int at) {
            if (at < 0 || at > row.length - STATE) {
                return;
            }
            for (int i = 0; i < tempers.length; i++) {
                row[at + i] = tempers[i];
            }
            int next = at + tempers.length;
            row[next] = seed;
            row[next + 1] = isWalking ? 1 : 0;
            row[next + 2] = place;
            row[next + 3] = way;
            row[next + 4] = mile;
            talk.put(row, next + 5);
        }

        private void bring(int[] row, int at) {
            if (at < 0 || at > row.length - STATE) {
                return;
            }
            for (int i = 0; i < tempers.length; i++) {
                tempers[i] = row[at + i];
            }
            int next = at + tempers.length;
            seed = row[next];
            isWalking = row[next + 1] == 1;
            place = row[next + 2];
            way = row[next + 3];
            mile = row[next + 4];
            talk.bring(row, next + 5);
        }
    }

    /** Searches by tempers as they are now. Nothing is done, but what is found lies there. */
    private static final class Finder {
        private final Land land;
        private final int[] tempers;
        private final Stroll stroll;
        private final Row path = new Row();
        private final int[] lying = new int[ROUTE_WAYS];
        int lyingCount;
        /** How far each PLACE is from where a path shall end. */
        private final int[] far = new int[PLACES];
        /** The COUPLES that end just with some WAY, and these WAYS as bits. */
        private final int[] couples = new int[COUPLES];
        private final int[] endings = new int[COUPLES];
        private int endingCount;
        /** Tempers that are tried (of two SOULS, the others' are not looked at), and between which bounds. */
        private final int[] tried = new int[2 * SOULS];
        private final int[] lowest = new int[4];
        private final int[] highest = new int[4];
        private int triedMiles;
        /** Of a row that is walked its WAYS, from where, and how the QUARREL was there. */
        private final int[] homeWays = new int[HOME_WAYS];
        private final int[] homePlaces = new int[HOME_WAYS];
        private final int[] talks = new int[HOME_WAYS * TALK];
        private int homeEnd;
        private int homeMost;
        private int homeFound;

        Finder(Land land, int[] tempers) {
            this.land = land;
            this.tempers = tempers;
            stroll = new Stroll(land);
        }

        void layNothing() {
            lyingCount = 0;
        }

        private void lay(int number) {
            if (lyingCount >= 0 && lyingCount < lying.length) {
                lying[lyingCount] = number;
                lyingCount++;
            }
        }

        int tellLying(int i) {
            return i >= 0 && i < lyingCount && i < lying.length ? lying[i] : NONE;
        }

        int layShortest(int from, int to) {
            layNothing();
            int miles = findPath(from, to);
            if (miles == NONE) {
                return NONE;
            }
            for (int i = 0; i < path.count && i < ROUTE_WAYS; i++) {
                lay(path.ways[i]);
            }
            return miles;
        }

        /** The path becomes the SHORTEST: its MILES; NONE if there is none. */
        private int findPath(int from, int to) {
            if (!land.isPlace(from) || !land.isPlace(to)) {
                return NONE;
            }
            lookHowFar(to);
            if (far[from] >= FAR) {
                return NONE;
            }
            path.reset(from);
            for (int i = 0; i < PLACES && path.end != to; i++) {
                path.append(land, firstWayNearer(path.end));
            }
            return far[from];
        }

        private void lookHowFar(int to) {
            for (int place = 0; place < PLACES; place++) {
                far[place] = place == to ? 0 : FAR;
            }
            for (int round = 0; round < PLACES; round++) {
                for (int way = 0; way < land.ways && way < WAYS; way++) {
                    int one = land.from[way];
                    int other = land.to[way];
                    if (land.isPlace(one) && land.isPlace(other)) {
                        far[one] = Math.min(far[one], far[other] + land.length[way]);
                        far[other] = Math.min(far[other], far[one] + land.length[way]);
                    }
                }
            }
        }

        private int firstWayNearer(int place) {
            for (int way = 0; way < land.ways && way < WAYS; way++) {
                int end = land.otherEnd(way, place);
                if (land.isPlace(place) && land.isPlace(end) && far[end] + land.length[way] == far[place]) {
                    return way;
                }
            }
            return NONE;
        }

        int laySent(int from, int to) {
            layNothing();
            if (findPath(from, to) == NONE) {
                return NONE;
            }
            int count = 0;
            for (int couple = 0; couple < CODES; couple++) {
                if (land.isCouple(couple) && endsJustBehindPath(couple)) {
                    if (count == 0) {
                        lay(couple / 100);
                        lay(couple / 10 % 10);
                        lay(couple % 10);
                    }
                    count++;
                }
            }
            return count;
        }

        private boolean endsJustBehindPath(int couple) {
            stroll.begin(couple);
            return stroll.goOn(tempers, path) && stroll.isAtEnd(path);
        }

        /** The path becomes one WAY, there or back. */
        void setPath(int way, boolean isBack) {
            if (land.isWay(way)) {
                path.reset(isBack ? land.to[way] : land.from[way]);
                path.append(land, way);
            }
        }

        /** How many QUARRELS are begun on the path, a new one behind each that ENDED ahead of its end. */
        int measurePath(int couple) {
            int begun = 1;
            stroll.begin(couple);
            while (begun < FAR && stroll.goOn(tempers, path) && !stroll.isAtEnd(path)) {
                stroll.talk.begin(couple);
                begun++;
            }
            return begun;
        }

        int countAdding(int way, int other) {
            int count = 0;
            for (int couple = 0; couple < CODES; couple++) {
                if (land.isCouple(couple)) {
                    setPath(way, false);
                    int apart = measurePath(couple);
                    setPath(other, false);
                    apart += measurePath(couple);
                    setPath(way, false);
                    path.append(land, other);
                    if (measurePath(couple) == apart) {
                        count++;
                    }
                }
            }
            return count;
        }

        int countFair() {
            int count = 0;
            for (int couple = 0; couple < CODES; couple++) {
                boolean isFair = land.isCouple(couple);
                for (int way = 0; way < land.ways && isFair; way++) {
                    setPath(way, false);
                    int there = measurePath(couple);
                    setPath(way, true);
                    isFair = measurePath(couple) == there;
                }
                if (isFair) {
                    count++;
                }
            }
            return count;
        }

        /** Couples that end with no WAY are in no cover of the fewest. */
        void lookForEndings() {
            endingCount = 0;
            for (int couple = 0; couple < CODES; couple++) {
                int ending = 0;
                for (int way = 0; way < land.ways && land.isCouple(couple); way++) {
                    setPath(way, false);
                    if (endsJustBehindPath(couple)) {
                        ending |= 1 << way;
                    }
                }
                if (ending != 0 && endingCount < COUPLES) {
                    couples[endingCount] = couple;
                    endings[endingCount] = ending;
                    endingCount++;
                }
            }
        }

        int layCover() {
            layNothing();
            if (land.ways <= 0) {
                return 0;
            }
            if (coverByOne() || coverByTwo() || coverByThree()) {
                return lyingCount;
            }
            return NONE;
        }

        private boolean coverByOne() {
            int last = firstCovering(0, 0);
            if (last == NONE) {
                return false;
            }
            lay(couples[last]);
            return true;
        }

        private boolean coverByTwo() {
            for (int i = 0; i < endingCount && i < COUPLES; i++) {
                int last = firstCovering(i + 1, endings[i]);
                if (last != NONE) {
                    lay(couples[i]);
                    lay(couples[last]);
                    return true;
                }
            }
            return false;
        }

        private boolean coverByThree() {
            for (int i = 0; i < endingCount && i < COUPLES; i++) {
                for (int j = i + 1; j < endingCount && j < COUPLES; j++) {
                    int last = firstCovering(j + 1, endings[i] | endings[j]);
                    if (last != NONE) {
                        lay(couples[i]);
                        lay(couples[j]);
                        lay(couples[last]);
                        return true;
                    }
                }
            }
            return false;
        }

        /** From that one on the first that ends with all the WAYS that are not covered. */
        private int firstCovering(int from, int covered) {
            int all = (1 << land.ways) - 1;
            for (int i = Math.max(0, from); i < endingCount && i < COUPLES; i++) {
                if ((covered | endings[i]) == all) {
                    return i;
                }
            }
            return NONE;
        }

        int countTurned() {
            int count = 0;
            for (int couple = 0; couple < CODES; couple++) {
                int one = couple / 100;
                int other = couple / 10 % 10;
                int matter = couple % 10;
                if (one < other && land.isCouple(couple)
                    && openLength(couple) == openLength(land.couple(other, one, matter))) {
                    count++;
                }
            }
            return count;
        }

        private int openLength(int couple) {
            stroll.talk.begin(couple);
            return stroll.talk.talkOpenly(tempers, SEA);
        }

        int layHome(int couple, int from, int to, int most) {
            layNothing();
            boolean canBe = couple != NONE && land.isPlace(from) && land.isPlace(to);
            if (!canBe || most < 1 || most > HOME_WAYS) {
                return NONE;
            }
            homeEnd = to;
            homeMost = most;
            homeFound = 0;
            stroll.talk.begin(couple);
            stroll.talk.put(talks, 0);
            searchHome(from);
            return homeFound;
        }

        /** Goes WAY by WAY through all rows from a PLACE; a row ends where the QUARREL does. */
        private void searchHome(int from) {
            int depth = 0;
            homePlaces[0] = from;
            homeWays[0] = NONE;
            for (int i = 0; i < FAR && depth >= 0 && depth < HOME_WAYS; i++) {
                homeWays[depth]++;
                if (homeWays[depth] >= land.ways) {
                    depth--;
                } else if (goesOn(depth)) {
                    depth++;
                }
            }
        }

        /** Walks the last WAY of a row: whether the row may become longer by one WAY. */
        private boolean goesOn(int depth) {
            if (depth < 0 || depth >= HOME_WAYS) {
                return false;
            }
            int way = homeWays[depth];
            int end = land.otherEnd(way, homePlaces[depth]);
            if (end == NONE) {
                return false;
            }
            Talk talk = stroll.talk;
            talk.bring(talks, depth * TALK);
            int mile = 0;
            while (mile < land.length[way] && !talk.isOver()) {
                mile++;
                talk.sayOnWay(tempers, way, mile, end);
            }
            if (talk.isOver()) {
                if (mile == land.length[way] && end == homeEnd) {
                    layRow(depth + 1);
                }
                return false;
            }
            if (depth + 1 >= homeMost || depth + 1 >= HOME_WAYS) {
                return false;
            }
            homePlaces[depth + 1] = end;
            homeWays[depth + 1] = NONE;
            talk.put(talks, (depth + 1) * TALK);
            return true;
        }

        /** Rows are found WAY by WAY: of as many WAYS the first one found is the first. */
        private void layRow(int count) {
            homeFound++;
            if (homeFound > 1 && count >= lyingCount) {
                return;
            }
            layNothing();
            for (int i = 0; i < count && i < HOME_WAYS; i++) {
                lay(homeWays[i]);
            }
        }

        int layTempers(int couple, int miles) {
            layNothing();
            if (couple == NONE || miles < 1 || miles > ROAD) {
                return CANNOT;
            }
            triedMiles = miles;
            setBounds(couple);
            for (int changes = 0; changes <= 4 * MOST_TEMPER; changes++) {
                if (layChanged(couple, changes)) {
                    return changes;
                }
            }
            return NONE;
        }

        /** A temper that no formula asks for is never worth a change. */
        private void setBounds(int couple) {
            for (int i = 0; i < 4; i++) {
                int known = i % 2 == 0 ? KNOWN_STUBBORN : KNOWN_SHORT;
                boolean isAsked = land.heatRule.asksFor(known) || land.backRule.asksFor(known);
                int now = temperNow(couple, i);
                lowest[i] = isAsked ? 0 : now;
                highest[i] = isAsked ? MOST_TEMPER : now;
            }
        }

        /** The i-th of the four: stubborn, short of the first one, then of the other one. */
        private static int temperAt(int couple, int i) {
            int soul = i < 2 ? couple / 100 : couple / 10 % 10;
            return 2 * soul + i % 2;
        }

        private int temperNow(int couple, int i) {
            int at = temperAt(couple, i);
            return at >= 0 && at < tempers.length ? tempers[at] : 0;
        }

        /** Three of the four and the number of changes leave two for the last one at most. */
        private boolean layChanged(int couple, int changes) {
            for (int a = lowest[0]; a <= highest[0]; a++) {
                int behindA = changes - Math.abs(a - temperNow(couple, 0));
                for (int b = lowest[1]; b <= highest[1] && behindA >= 0; b++) {
                    int behindB = behindA - Math.abs(b - temperNow(couple, 1));
                    for (int c = lowest[2]; c <= highest[2] && behindB >= 0; c++) {
                        int rest = behindB - Math.abs(c - temperNow(couple, 2));
                        int last = temperNow(couple, 3);
                        tryTemper(couple, 0, a);
                        tryTemper(couple, 1, b);
                        tryTemper(couple, 2, c);
                        if (rest >= 0 && (layIfLong(couple, last - rest) || layIfLong(couple, last + rest))) {
                            return true;
                        }
                    }
                }
            }
            return false;
        }

        private void tryTemper(int couple, int i, int temper) {
            int at = temperAt(couple, i);
            if (at >= 0 && at < tried.length) {
                tried[at] = temper;
            }
        }

        private boolean layIfLong(int couple, int last) {
            if (last < lowest[3] || last > highest[3]) {
                return false;
            }
            tryTemper(couple, 3, last);
            stroll.talk.begin(couple);
            if (stroll.talk.talkOpenly(tried, triedMiles) != triedMiles) {
                return false;
            }
            for (int i = 0; i < 4; i++) {
                int at = temperAt(couple, i);
                lay(at >= 0 && at < tried.length ? tried[at] : 0);
            }
            return true;
        }
    }

    /** What was told of an unknown road in OPEN country, by tempers as told in the text. */
    private static final class Reports {
        private final Land land;
        private final Talk talk;
        int time;
        int count;
        private final int[] toldAt = new int[REPORTS];
        /** NONE if it was not UNTOLD. */
        private final int[] untoldAt = new int[REPORTS];
        /** The MILES that it leaves, as bits. */
        private final long[] roads = new long[REPORTS];

        Reports(Land land) {
            this.land = land;
            talk = new Talk(land);
        }

        /** The TIME stays. */
        void forget() {
            count = 0;
        }

        int tell(int couple, int what) {
            if (count < 0 || count >= REPORTS) {
                return NONE;
            }
            toldAt[count] = time;
            untoldAt[count] = NONE;
            roads[count] = roadsBy(toldLength(couple), what);
            count++;
            return count - 1;
        }

        boolean takeBack(int report) {
            if (report < 0 || report >= count || report >= REPORTS || untoldAt[report] != NONE) {
                return false;
            }
            untoldAt[report] = time;
            return true;
        }

        int passTime(int by) {
            if (by < 0 || by > MOST_LATER || time + by > MOST_TIME) {
                return NONE;
            }
            time += by;
            return time;
        }

        long roadsKnownAt(int k) {
            long left = ALL_ROADS;
            for (int i = 0; i < count && i < REPORTS; i++) {
                boolean isUntold = untoldAt[i] != NONE && untoldAt[i] <= k;
                if (toldAt[i] <= k && !isUntold) {
                    left &= roads[i];
                }
            }
            return left;
        }

        int findQuestion(int what, int k) {
            long left = roadsKnownAt(k);
            if (what < 0 || what > 1 || left == 0L) {
                return NONE;
            }
            int best = NONE;
            int fewest = ROAD + 1;
            for (int couple = 0; couple < CODES; couple++) {
                int most = land.isCouple(couple) ? mostLeft(couple, left) : fewest;
                if (most < fewest) {
                    best = couple;
                    fewest = most;
                }
            }
            if (best == NONE) {
                return NONE;
            }
            return what == 0 ? best : fewest;
        }

        private int mostLeft(int couple, long left) {
            int length = toldLength(couple);
            int most = 0;
            for (int what = 0; what <= 2; what++) {
                most = Math.max(most, Long.bitCount(left & roadsBy(length, what)));
            }
            return most;
        }

        /** How long the QUARREL is, or longer than any road. */
        private int toldLength(int couple) {
            talk.begin(couple);
            int length = talk.talkOpenly(land.tempers, ROAD);
            return length == NONE ? ROAD + 1 : length;
        }

        /** The roads on which a QUARREL of that length ENDED ahead of their end (0), just there (1), or not (2). */
        private static long roadsBy(int length, int what) {
            long shorter = length > ROAD ? ALL_ROADS : (1L << (length - 1)) - 1L;
            long alike = length > ROAD ? 0L : 1L << (length - 1);
            if (what == 2) {
                return shorter;
            }
            return what == 1 ? alike : ALL_ROADS & ~shorter & ~alike;
        }
    }
}
