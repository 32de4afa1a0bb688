import java.util.Arrays;

/** Rumours that travellers carry between taverns, over roads whose bridges are hurt and mended. */
public final class TavernRumours {
    private static final int MAX_TAPE = 2000;
    private static final int MAX_TOKENS = 400;
    private static final int MAX_DEPTH = 8;
    private static final int MAX_WORD = 10;
    private static final int MAX_DIGITS = 6;
    private static final int MAX_TAVERNS = 10;
    private static final int MAX_ROADS = 14;
    private static final int MAX_RUMOURS = 6;
    private static final int MAX_ORDERS = 20;
    private static final int MAX_MILES = 30;
    private static final int MAX_BEGIN = 99;
    /** A road with so many wounds is not open; no road has more. */
    private static final int BROKEN = 3;
    private static final int MILES_OF_A_WOUND = 2;
    /** Each tavern sends once for each rumour, so that each road is set out on twice for each at most. */
    private static final int MAX_WALKERS = 2 * MAX_ROADS * MAX_RUMOURS;
    /** At each of nine depths at most five values wait for what they are joined with. */
    private static final int MAX_STACK = 64;

    private static final int COUNTS = 15;
    private static final int FIRST_FORESEEN = 5;
    private static final int LAST_FORESEEN = 13;
    private static final int TAVERN_FACTS = 4;
    private static final int ROAD_FACTS = 9;
    private static final int RUMOUR_FACTS = 4;
    private static final int MAX_PASS = 100;
    private static final int MAX_UNTIL = 120;
    private static final int MAX_ADVISE = 60;

    private static final int NONE = -1;
    private static final int GRAMMAR_ERROR = 1;
    private static final int TWICE_ERROR = 2;
    private static final int UNKNOWN_ERROR = 3;
    private static final int TOO_MANY_ERROR = 4;
    private static final int RANGE_ERROR = 5;

    private final byte[] tape = new byte[MAX_TAPE];
    private int tapeLength = 0;
    private int errorPlace = NONE;
    private Plan told = new Plan();
    /** The list that is being read; it takes the place of the one told only if it has no error. */
    private Plan draft = new Plan();
    private final Grammar grammar = new Grammar(draft);
    private final Names names = new Names(draft);
    private final Land land = new Land(told);
    /** A copy of the land on which is tried out what would be. */
    private final Land trial = new Land(told);

    public TavernRumours() {
    }

    // ---- the language

    public int feed(int a, int b, int c, int d, int e) throws IllegalStateException {
        if (tapeLength + 20 > MAX_TAPE) {
            throw new IllegalStateException("the tape would be too long");
        }
        append(a);
        append(b);
        append(c);
        append(d);
        append(e);
        return tapeLength;
    }

    private void append(int number) {
        for (int shift = 24; shift >= 0 && tapeLength < MAX_TAPE; shift -= 8) {
            tape[tapeLength] = (byte) (number >> shift);
            tapeLength++;
        }
    }

    public int trim(int n) throws IllegalArgumentException {
        if (n < 0 || n > tapeLength) {
            throw new IllegalArgumentException("the tape has not so many bytes");
        }
        tapeLength = n;
        return n;
    }

    public int teach() {
        draft.clear();
        draft.tokens.read(tape, tapeLength);
        tapeLength = 0;
        if (!grammar.reads(draft)) {
            errorPlace = draft.tokens.placeOf(grammar.next);
            return GRAMMAR_ERROR;
        }
        int error = names.look(draft);
        if (error != 0) {
            errorPlace = draft.tokens.placeOf(names.errorToken);
            return error;
        }
        errorPlace = NONE;
        Plan before = told;
        told = draft;
        draft = before;
        land.begin(told);
        return 0;
    }

    public int errorAt() {
        return errorPlace;
    }

    public int count(int what) throws IndexOutOfBoundsException {
        if (what < 0 || what >= COUNTS) {
            throw new IndexOutOfBoundsException("no such count");
        }
        return countOf(what);
    }

    private int countOf(int what) {
        switch (what) {
            case 0:
                return land.hour;
            case 1:
                return told.taverns;
            case 2:
                return told.roads;
            case 3:
                return told.rumours;
            case 4:
                return told.orders;
            case 14:
                return tapeLength;
            default:
                return land.tally(what);
        }
    }

    // ---- what there is

    public int tavern(int tavern, int what) throws IndexOutOfBoundsException {
        if (!isTavern(tavern) || what < 0 || what >= TAVERN_FACTS) {
            throw new IndexOutOfBoundsException("no such tavern, or nothing to tell of it");
        }
        return tavernFact(tavern, what);
    }

    private int tavernFact(int tavern, int what) {
        switch (what) {
            case 0:
                return land.roads.openAt(tavern);
            case 1:
                return land.knownBy(tavern);
            case 2:
                return land.roads.partOf(tavern);
            default:
                return land.roads.farthestFrom(tavern);
        }
    }

    public int road(int road, int what) throws IndexOutOfBoundsException {
        if (!isRoad(road) || what < 0 || what >= ROAD_FACTS) {
            throw new IndexOutOfBoundsException("no such road, or nothing to tell of it");
        }
        return roadFact(road, what);
    }

    private int roadFact(int road, int what) {
        Roads roads = land.roads;
        switch (what) {
            case 0:
                return roads.from[road];
            case 1:
                return roads.to[road];
            case 2:
                return roads.miles[road];
            case 3:
                return roads.wounds[road];
            case 4:
                return roads.length[road];
            case 5:
                return roads.isOpen(road) ? 1 : 0;
            case 6:
                return roads.isSpan(road) ? 1 : 0;
            case 7:
                return roads.isInNet(road) ? 1 : 0;
            default:
                return land.walkersOn(road);
        }
    }

    public int rumour(int rumour, int what) throws IndexOutOfBoundsException {
        if (!isRumour(rumour) || what < 0 || what >= RUMOUR_FACTS) {
            throw new IndexOutOfBoundsException("no such rumour, or nothing to tell of it");
        }
        return rumourFact(rumour, what);
    }

    private int rumourFact(int rumour, int what) {
        switch (what) {
            case 0:
                return told.beginsAt[rumour];
            case 1:
                return told.beginsOn[rumour];
            case 2:
                return land.knowersOf(rumour);
            default:
                return land.walkersWith(rumour);
        }
    }

    public int since(int tavern, int rumour) throws IndexOutOfBoundsException {
        if (!isTavern(tavern) || !isRumour(rumour)) {
            throw new IndexOutOfBoundsException("no such tavern or rumour");
        }
        return land.hourOfHearing(tavern, rumour);
    }

    private boolean isTavern(int tavern) {
        return tavern >= 0 && tavern < told.taverns;
    }

    private boolean isRoad(int road) {
        return road >= 0 && road < told.roads;
    }

    private boolean isRumour(int rumour) {
        return rumour >= 0 && rumour < told.rumours;
    }

    // ---- ways

    public int far(int a, int b) throws IndexOutOfBoundsException {
        if (!isTavern(a) || !isTavern(b)) {
            throw new IndexOutOfBoundsException("no such tavern");
        }
        return land.roads.between(a, b);
    }

    public int step(int a, int b) throws IndexOutOfBoundsException {
        if (!isTavern(a) || !isTavern(b)) {
            throw new IndexOutOfBoundsException("no such tavern");
        }
        return land.roads.nextTavern(a, b);
    }

    public int detour(int road) throws IndexOutOfBoundsException {
        if (!isRoad(road)) {
            throw new IndexOutOfBoundsException("no such road");
        }
        return land.roads.lengthAround(road);
    }

    public int replace(int road) throws IndexOutOfBoundsException {
        if (!isRoad(road)) {
            throw new IndexOutOfBoundsException("no such road");
        }
        return land.roads.substituteFor(road);
    }

    // ---- by hand

    public int hurt(int road, int by) throws IndexOutOfBoundsException, IllegalArgumentException {
        if (!isRoad(road)) {
            throw new IndexOutOfBoundsException("no such road");
        }
        if (by < 1 || by > BROKEN) {
            throw new IllegalArgumentException("not so many wounds at once");
        }
        land.roads.addWounds(road, by);
        return land.roads.wounds[road];
    }

    public int mend(int road) throws IndexOutOfBoundsException, IllegalStateException {
        if (!isRoad(road)) {
            throw new IndexOutOfBoundsException("no such road");
        }
        if (!land.roads.takeWound(road)) {
            throw new IllegalStateException("the road has no wound");
        }
        return land.roads.wounds[road];
    }

    public int tell(int tavern, int rumour) throws IndexOutOfBoundsException, IllegalStateException {
        if (!isTavern(tavern) || !isRumour(rumour)) {
            throw new IndexOutOfBoundsException("no such tavern or rumour");
        }
        if (!land.hears(tavern, rumour)) {
            throw new IllegalStateException("the tavern knows the rumour");
        }
        return land.knowersOf(rumour);
    }

    public int setMiles(int road, int miles) throws IndexOutOfBoundsException, IllegalArgumentException {
        if (!isRoad(road)) {
            throw new IndexOutOfBoundsException("no such road");
        }
        if (miles < 1 || miles > MAX_MILES) {
            throw new IllegalArgumentException("no road has so many miles");
        }
        int before = land.roads.miles[road];
        land.roads.shape(road, miles, land.roads.wounds[road]);
        return before;
    }

    // ---- hours

    public int pass(int hours) throws IllegalArgumentException {
        if (hours < 1 || hours > MAX_PASS) {
            throw new IllegalArgumentException("not so many hours at once");
        }
        return land.passHours(hours);
    }

    // ---- what would be

    public int until(int rumour) throws IndexOutOfBoundsException {
        if (!isRumour(rumour)) {
            throw new IndexOutOfBoundsException("no such rumour");
        }
        trial.copy(land);
        for (int hours = 0; hours <= MAX_UNTIL; hours++) {
            if (trial.knowersOf(rumour) == told.taverns) {
                return hours;
            }
            trial.passHours(1);
        }
        return NONE;
    }

    public int foresee(int hours, int what) throws IllegalArgumentException, IndexOutOfBoundsException {
        if (hours < 1 || hours > MAX_PASS) {
            throw new IllegalArgumentException("not so many hours at once");
        }
        if (what < FIRST_FORESEEN || what > LAST_FORESEEN) {
            throw new IndexOutOfBoundsException("no such count");
        }
        trial.copy(land);
        trial.passHours(hours);
        return trial.tally(what);
    }

    public int advise(int rumour, int hours) throws IndexOutOfBoundsException, IllegalArgumentException {
        if (!isRumour(rumour)) {
            throw new IndexOutOfBoundsException("no such rumour");
        }
        if (hours < 1 || hours > MAX_ADVISE) {
            throw new IllegalArgumentException("not so many hours at once");
        }
        int most = knowersBehind(hours, rumour, NONE);
        int advised = NONE;
        for (int tavern = 0; tavern < told.taverns; tavern++) {
            if (!land.knows(tavern, rumour)) {
                int knowers = knowersBehind(hours, rumour, tavern);
                if (knowers > most) {
                    most = knowers;
                    advised = tavern;
                }
            }
        }
        return advised;
    }

    private int knowersBehind(int hours, int rumour, int toldTavern) {
        trial.copy(land);
        if (toldTavern != NONE) {
            trial.hears(toldTavern, rumour);
        }
        trial.passHours(hours);
        return trial.knowersOf(rumour);
    }

    public int best() {
        trial.copy(land);
        Roads roads = trial.roads;
        int chosen = NONE;
        int fewestParts = 0;
        int shortestNet = 0;
        for (int road = 0; road < roads.count; road++) {
            int wounds = roads.wounds[road];
            if (roads.takeWound(road)) {
                int parts = roads.parts();
                int net = roads.lengthOfNet();
                if (chosen == NONE || parts < fewestParts || parts == fewestParts && net < shortestNet) {
                    chosen = road;
                    fewestParts = parts;
                    shortestNet = net;
                }
                roads.shape(road, roads.miles[road], wounds);
            }
        }
        return chosen;
    }

    public double mean() {
        Roads roads = land.roads;
        int open = roads.openRoads();
        return open == 0 ? 0 : (double) roads.lengthOfOpen() / open;
    }

    public long digest() {
        long sum = 1697;
        for (int what = 0; what < COUNTS; what++) {
            sum = sum * 31 + countOf(what);
        }
        sum = digestTaverns(sum);
        sum = digestRoads(sum);
        for (int rumour = 0; rumour < told.rumours; rumour++) {
            for (int what = 0; what < RUMOUR_FACTS; what++) {
                sum = sum * 31 + rumourFact(rumour, what);
            }
        }
        return sum;
    }

    private long digestTaverns(long before) {
        long sum = before;
        for (int tavern = 0; tavern < told.taverns; tavern++) {
            for (int what = 0; what < TAVERN_FACTS; what++) {
                sum = sum * 31 + tavernFact(tavern, what);
            }
            for (int rumour = 0; rumour < told.rumours; rumour++) {
                sum = sum * 31 + land.hourOfHearing(tavern, rumour);
            }
        }
        return sum;
    }

    private long digestRoads(long before) {
        long sum = before;
        for (int road = 0; road < told.roads; road++) {
            for (int what = 0; what < ROAD_FACTS; what++) {
                sum = sum * 31 + roadFact(road, what);
            }
            sum = sum * 31 + land.roads.lengthAround(road);
            sum = sum * 31 + land.roads.substituteFor(road);
        }
        return sum;
    }

    /** What a token is; keywords and symbols have their text. */
    private enum Kind {
        TAVERN("tavern", 0), ROAD("road", 0), FROM("from", 0), TO("to", 0), MILES("miles", 0),
        RUMOUR("rumour", 0), AT("at", 0), ON("on", 0), HURT("hurt", 0), BY("by", 0), MEND("mend", 0),
        HUSH("hush", 0), WHEN("when", 0), HOUR("hour", 0), LENGTH("length", 0), WOUNDS("wounds", 0),
        FAR("far", 0), HEARD("heard", 0), OPEN("open", 0), KNOWS("knows", 0), PARTED("parted", 0),
        NOT("not", 1), AND("and", 2), OR("or", 2), MIN("min", 2), MAX("max", 2),
        ROUND_OPENING("(", 0), ROUND_CLOSING(")", 0), SQUARE_OPENING("[", 0), SQUARE_CLOSING("]", 0),
        SEMICOLON(";", 0), COMMA(",", 0), PLUS("+", 2), MINUS("-", 2), TIMES("*", 2), OVER("/", 2),
        LESS("<", 2), GREATER(">", 2), EQUAL("=", 2), AT_MOST("<=", 2), AT_LEAST(">=", 2),
        /** A - in front of a value: the grammar alone can tell it from the one between two products. */
        NEGATE("", 1),
        NAME("", 0), NUMBER("", 0), WRONG("", 0), END("", 0);

        private static final Kind[] ALL = values();

        final String text;
        /** How many values it makes one of, when it is reckoned. */
        final int operands;

        Kind(String text, int operands) {
            this.text = text;
            this.operands = operands;
        }
    }

    /** The tokens of a tape; the last one is the end, or one with which no list can go on. */
    private static final class Tokens {
        final Kind[] kinds = new Kind[MAX_TOKENS + 1];
        private final int[] places = new int[MAX_TOKENS + 1];
        /** What a number is, and, when names have been looked at, the number of what has that name. */
        private final int[] values = new int[MAX_TOKENS + 1];
        private final long[] spellings = new long[MAX_TOKENS + 1];
        int count = 0;

        Tokens() {
            for (int token = 0; token < kinds.length; token++) {
                kinds[token] = Kind.END;
            }
        }

        private boolean has(int token) {
            return token >= 0 && token < count;
        }

        Kind kindOf(int token) {
            return has(token) ? kinds[token] : Kind.END;
        }

        int placeOf(int token) {
            return has(token) ? places[token] : NONE;
        }

        int valueOf(int token) {
            return has(token) ? values[token] : NONE;
        }

        long spellingOf(int token) {
            return has(token) ? spellings[token] : NONE;
        }

        void setValue(int token, int value) {
            if (has(token)) {
                values[token] = value;
            }
        }

        void setKind(int token, Kind kind) {
            if (token >= 0 && token < count) {
                kinds[token] = kind;
            }
        }

        void read(byte[] tape, int length) {
            count = 0;
            int place = 0;
            boolean goesOn = true;
            for (int token = 0; goesOn && token <= MAX_TOKENS; token++) {
                place = behindBlanks(tape, length, place);
                int end = endOfToken(tape, length, place);
                Kind kind = kindBetween(tape, place, end);
                if (token == MAX_TOKENS && kind != Kind.END) {
                    kind = Kind.WRONG;
                }
                kinds[token] = kind;
                places[token] = place;
                values[token] = kind == Kind.NUMBER ? numberBetween(tape, place, end) : 0;
                spellings[token] = kind == Kind.NAME ? spellingBetween(tape, place, end) : 0;
                count = token + 1;
                place = end;
                goesOn = kind != Kind.END && kind != Kind.WRONG;
            }
        }

        private static int behindBlanks(byte[] tape, int length, int from) {
            int place = from;
            while (place < length && (tape[place] == ' ' || tape[place] == '\n')) {
                place++;
            }
            return place;
        }

        private static int endOfToken(byte[] tape, int length, int from) {
            if (from >= length) {
                return from;
            }
            int end = from + 1;
            if (isLetter(tape[from])) {
                while (end < length && (isLetter(tape[end]) || isDigit(tape[end]))) {
                    end++;
                }
            } else if (isDigit(tape[from])) {
                while (end < length && isDigit(tape[end])) {
                    end++;
                }
            } else if ((tape[from] == '<' || tape[from] == '>') && end < length && tape[end] == '=') {
                end++;
            }
            return end;
        }

        private static Kind kindBetween(byte[] tape, int from, int end) {
            if (from >= end) {
                return Kind.END;
            }
            if (isLetter(tape[from])) {
                return end - from > MAX_WORD ? Kind.WRONG : kindSpelt(tape, from, end, Kind.NAME);
            }
            if (isDigit(tape[from])) {
                return end - from > MAX_DIGITS ? Kind.WRONG : Kind.NUMBER;
            }
            return kindSpelt(tape, from, end, Kind.WRONG);
        }

        private static Kind kindSpelt(byte[] tape, int from, int end, Kind otherwise) {
            for (Kind kind : Kind.ALL) {
                if (kind.text.length() == end - from && isSpelt(kind.text, tape, from)) {
                    return kind;
                }
            }
            return otherwise;
        }

        private static boolean isSpelt(String text, byte[] tape, int from) {
            for (int i = 0; i < text.length(); i++) {
                if (text.charAt(i) != tape[from + i]) {
                    return false;
                }
            }
            return true;
        }

        private static int numberBetween(byte[] tape, int from, int end) {
            int number = 0;
            for (int place = from; place < end; place++) {
                number = number * 10 + tape[place] - '0';
            }
            return number;
        }

        /** A word of ten signs, each one of 36, fits into a long; so names are the same if these are. */
        private static long spellingBetween(byte[] tape, int from, int end) {
            long spelling = 0;
            for (int place = from; place < end; place++) {
                byte sign = tape[place];
                spelling = spelling * 37 + (isLetter(sign) ? sign - 'a' + 11 : sign - '0' + 1);
            }
            return spelling;
        }

        private static boolean isLetter(byte sign) {
            return sign >= 'a' && sign <= 'z';
        }

        private static boolean isDigit(byte sign) {
            return sign >= '0' && sign <= '9';
        }
    }

    /** What a list tells; neither hours nor hands change it. */
    private static final class Plan {
        final Tokens tokens = new Tokens();
        /** Tokens of sums and tests, each behind those that it joins or turns, as a stack reckons them. */
        private final int[] code = new int[MAX_TOKENS];
        int codeLength = 0;
        int taverns = 0;
        int roads = 0;
        int rumours = 0;
        int orders = 0;
        final int[] from = new int[MAX_ROADS];
        final int[] to = new int[MAX_ROADS];
        final int[] miles = new int[MAX_ROADS];
        final int[] beginsAt = new int[MAX_RUMOURS];
        final int[] beginsOn = new int[MAX_RUMOURS];
        final int[] orderToken = new int[MAX_ORDERS];
        final int[] sumFrom = new int[MAX_ORDERS];
        final int[] testFrom = new int[MAX_ORDERS];
        final int[] testEnd = new int[MAX_ORDERS];

        void clear() {
            codeLength = 0;
            taverns = 0;
            roads = 0;
            rumours = 0;
            orders = 0;
        }

        void addCode(int token) {
            if (codeLength < MAX_TOKENS) {
                code[codeLength] = token;
                codeLength++;
            }
        }

        int codeAt(int place) {
            return place >= 0 && place < codeLength ? code[place] : NONE;
        }

        void addRoad(int fromTavern, int toTavern, int itsMiles) {
            if (roads < MAX_ROADS) {
                from[roads] = fromTavern;
                to[roads] = toTavern;
                miles[roads] = itsMiles;
                roads++;
            }
        }

        void addRumour(int tavern, int hour) {
            if (rumours < MAX_RUMOURS) {
                beginsAt[rumours] = tavern;
                beginsOn[rumours] = hour;
                rumours++;
            }
        }

        /** Orders beyond the limit are left out here: the names' pass tells the error. */
        void addOrder(int token, int itsSumFrom, int itsTestFrom) {
            if (orders < MAX_ORDERS) {
                orderToken[orders] = token;
                sumFrom[orders] = itsSumFrom;
                testFrom[orders] = itsTestFrom;
                testEnd[orders] = codeLength;
                orders++;
            }
        }

        Kind kindOfOrder(int order) {
            return tokens.kindOf(orderToken[order]);
        }

        int targetOfOrder(int order) {
            return tokens.valueOf(orderToken[order] + 1);
        }
    }

    /** Tells whether tokens are a list, and puts its sums and tests in the order of reckoning. */
    private static final class Grammar {
        private static final int TESTS = 0;
        private static final int BOTHS = 1;
        private static final int COMPARISONS = 2;
        private static final int SUMS = 3;
        private static final int PRODUCTS = 4;

        private Plan plan;
        /** The token that is looked at: the wrong one, if the tokens are no list. */
        int next = 0;
        private Kind ahead = Kind.END;

        Grammar(Plan plan) {
            this.plan = plan;
        }

        boolean reads(Plan draft) {
            plan = draft;
            next = 0;
            ahead = plan.tokens.kindOf(0);
            boolean good = true;
            for (int lines = 0; good && lines < MAX_TOKENS && ahead != Kind.END; lines++) {
                good = line() && take(Kind.SEMICOLON);
            }
            return good && ahead == Kind.END;
        }

        private boolean take(Kind kind) {
            boolean good = ahead == kind;
            if (good) {
                next++;
                ahead = next < plan.tokens.count ? plan.tokens.kinds[next] : Kind.END;
            }
            return good;
        }

        private boolean line() {
            switch (ahead) {
                case TAVERN:
                    return take(Kind.TAVERN) && take(Kind.NAME);
                case ROAD:
                    return take(Kind.ROAD) && take(Kind.NAME) && take(Kind.FROM) && take(Kind.NAME)
                            && take(Kind.TO) && take(Kind.NAME) && take(Kind.MILES) && take(Kind.NUMBER);
                case RUMOUR:
                    return take(Kind.RUMOUR) && take(Kind.NAME) && take(Kind.AT) && take(Kind.NAME)
                            && take(Kind.ON) && take(Kind.NUMBER);
                default:
                    return order();
            }
        }

        private boolean order() {
            int token = next;
            int sumFrom = plan.codeLength;
            boolean good;
            if (ahead == Kind.HURT) {
                good = take(Kind.HURT) && take(Kind.NAME) && take(Kind.BY) && chain(SUMS, 0);
            } else {
                good = (take(Kind.MEND) || take(Kind.HUSH)) && take(Kind.NAME);
            }
            int testFrom = plan.codeLength;
            good = good && take(Kind.WHEN) && chain(TESTS, 0);
            if (good) {
                plan.addOrder(token, sumFrom, testFrom);
            }
            return good;
        }

        /** A test, both, sum or product: its parts, and between them the tokens that join at its level. */
        private boolean chain(int level, int depth) {
            boolean good = part(level, depth);
            for (int joins = 0; good && joins < MAX_TOKENS && joinsAt(level); joins++) {
                int token = next;
                good = take(ahead) && part(level, depth);
                plan.addCode(token);
            }
            return good;
        }

        private boolean joinsAt(int level) {
            switch (level) {
                case TESTS:
                    return ahead == Kind.OR;
                case BOTHS:
                    return ahead == Kind.AND;
                case COMPARISONS:
                    return ahead == Kind.LESS || ahead == Kind.GREATER || ahead == Kind.EQUAL
                            || ahead == Kind.AT_MOST || ahead == Kind.AT_LEAST;
                case SUMS:
                    return ahead == Kind.PLUS || ahead == Kind.MINUS;
                default:
                    return ahead == Kind.TIMES || ahead == Kind.OVER;
            }
        }

        private boolean part(int level, int depth) {
            switch (level) {
                case TESTS:
                    return chain(BOTHS, depth);
                case BOTHS:
                    return single(depth);
                case SUMS:
                    return chain(PRODUCTS, depth);
                default:
                    return value(depth);
            }
        }

        private boolean single(int depth) {
            int token = next;
            boolean good;
            switch (ahead) {
                case SQUARE_OPENING:
                    return depth < MAX_DEPTH && take(Kind.SQUARE_OPENING) && chain(TESTS, depth + 1)
                            && take(Kind.SQUARE_CLOSING);
                case NOT:
                    good = depth < MAX_DEPTH && take(Kind.NOT) && single(depth + 1);
                    break;
                case OPEN:
                    good = take(Kind.OPEN) && take(Kind.NAME);
                    break;
                case KNOWS:
                case PARTED:
                    good = take(ahead) && take(Kind.NAME) && take(Kind.NAME);
                    break;
                default:
                    good = chain(SUMS, depth);
                    token = next;
                    good = good && joinsAt(COMPARISONS) && take(ahead) && chain(SUMS, depth);
                    break;
            }
            plan.addCode(token);
            return good;
        }

        private boolean value(int depth) {
            int token = next;
            boolean good;
            switch (ahead) {
                case ROUND_OPENING:
                    return depth < MAX_DEPTH && take(Kind.ROUND_OPENING) && chain(SUMS, depth + 1)
                            && take(Kind.ROUND_CLOSING);
                case MINUS:
                    good = depth < MAX_DEPTH && take(Kind.MINUS) && value(depth + 1);
                    plan.tokens.setKind(token, Kind.NEGATE);
                    break;
                case NUMBER:
                case HOUR:
                    good = take(ahead);
                    break;
                case LENGTH:
                case WOUNDS:
                case HEARD:
                    good = take(ahead) && take(Kind.NAME);
                    break;
                case FAR:
                    good = take(Kind.FAR) && take(Kind.NAME) && take(Kind.NAME);
                    break;
                case MIN:
                case MAX:
                    good = take(ahead) && depth < MAX_DEPTH && take(Kind.ROUND_OPENING) && chain(SUMS, depth + 1)
                            && take(Kind.COMMA) && chain(SUMS, depth + 1) && take(Kind.ROUND_CLOSING);
                    break;
                default:
                    return false;
            }
            plan.addCode(token);
            return good;
        }
    }

    /** Looks at keywords, names and numbers of tokens that are a list, from left to right. */
    private static final class Names {
        private static final int TAVERNS = 0;
        private static final int ROADS = 1;
        private static final int RUMOURS = 2;
        private static final int KINDS = 3;
        private static final int[] LIMITS = {MAX_TAVERNS, MAX_ROADS, MAX_RUMOURS};

        private final long[][] spellings = new long[KINDS][MAX_ROADS];
        private final int[] counts = new int[KINDS];
        private int orders = 0;
        private Plan plan;
        private int error = 0;
        int errorToken = 0;

        Names(Plan plan) {
            this.plan = plan;
        }

        /** Returns the first error, or 0: then the plan has all that was told. */
        int look(Plan draft) {
            plan = draft;
            error = 0;
            orders = 0;
            Arrays.fill(counts, 0);
            for (int token = 0; error == 0 && token < plan.tokens.count; token++) {
                lookAt(token);
            }
            plan.taverns = counts[TAVERNS];
            return error;
        }

        private void lookAt(int token) {
            switch (plan.tokens.kindOf(token)) {
                case TAVERN:
                    tellNew(TAVERNS, token + 1);
                    break;
                case ROAD:
                    lookAtRoad(token);
                    break;
                case RUMOUR:
                    lookAtRumour(token);
                    break;
                case HURT:
                case MEND:
                    countOrder(token);
                    find(ROADS, token + 1);
                    break;
                case HUSH:
                    countOrder(token);
                    find(TAVERNS, token + 1);
                    break;
                case OPEN:
                case LENGTH:
                case WOUNDS:
                    find(ROADS, token + 1);
                    break;
                case HEARD:
                    find(RUMOURS, token + 1);
                    break;
                case FAR:
                case PARTED:
                    find(TAVERNS, token + 1);
                    find(TAVERNS, token + 2);
                    break;
                case KNOWS:
                    find(TAVERNS, token + 1);
                    find(RUMOURS, token + 2);
                    break;
                default:
                    break;
            }
        }

        /** Its tokens: road name from name to name miles number. */
        private void lookAtRoad(int token) {
            tellNew(ROADS, token + 1);
            int from = find(TAVERNS, token + 3);
            int to = find(TAVERNS, token + 5);
            if (from == to) {
                note(UNKNOWN_ERROR, token + 5);
            }
            int miles = numberOf(token + 7, 1, MAX_MILES);
            if (error == 0) {
                plan.addRoad(from, to, miles);
            }
        }

        /** Its tokens: rumour name at name on number. */
        private void lookAtRumour(int token) {
            tellNew(RUMOURS, token + 1);
            int tavern = find(TAVERNS, token + 3);
            int hour = numberOf(token + 5, 0, MAX_BEGIN);
            if (error == 0) {
                plan.addRumour(tavern, hour);
            }
        }

        private void countOrder(int token) {
            orders++;
            if (orders > MAX_ORDERS) {
                note(TOO_MANY_ERROR, token);
            }
        }

        /** Only the leftmost error is told; at one token the smaller ones are noted first. */
        private void note(int number, int token) {
            if (error == 0) {
                error = number;
                errorToken = token;
            }
        }

        private void tellNew(int kind, int token) {
            long spelling = plan.tokens.spellingOf(token);
            if (indexOf(kind, spelling) != NONE) {
                note(TWICE_ERROR, token);
            } else if (counts[kind] >= LIMITS[kind]) {
                note(TOO_MANY_ERROR, token);
            } else {
                spellings[kind][counts[kind]] = spelling;
                counts[kind]++;
            }
        }

        private int find(int kind, int token) {
            int index = indexOf(kind, plan.tokens.spellingOf(token));
            if (index == NONE) {
                note(UNKNOWN_ERROR, token);
            }
            plan.tokens.setValue(token, index);
            return index;
        }

        private int indexOf(int kind, long spelling) {
            for (int index = 0; index < counts[kind]; index++) {
                if (spellings[kind][index] == spelling) {
                    return index;
                }
            }
            return NONE;
        }

        private int numberOf(int token, int least, int most) {
            int number = plan.tokens.valueOf(token);
            if (number < least || number > most) {
                note(RANGE_ERROR, token);
            }
            return number;
        }
    }

    /** The roads as they are now, and the ways over them. */
    private static final class Roads {
        /** Longer than every way: nine roads of 36 miles make the longest one. */
        private static final int UNREACHED = 1000;
        /** For the road that a net leaves out: no net was laid since a road changed. */
        private static final int STALE = -2;

        int taverns = 0;
        int count = 0;
        final int[] from = new int[MAX_ROADS];
        final int[] to = new int[MAX_ROADS];
        final int[] miles = new int[MAX_ROADS];
        final int[] wounds = new int[MAX_ROADS];
        final int[] length = new int[MAX_ROADS];

        /** How far all taverns are from each one; kept until a road changes, for tests ask often. */
        private final int[][] rows = new int[MAX_TAVERNS][MAX_TAVERNS];
        private final boolean[] rowIsFresh = new boolean[MAX_TAVERNS];
        private final int[] rowAround = new int[MAX_TAVERNS];

        private int netWithout = STALE;
        private int netRoads = 0;
        private int netLength = 0;
        private final boolean[] inNet = new boolean[MAX_ROADS];
        private final boolean[] inNetBefore = new boolean[MAX_ROADS];
        private final int[] shortestFirst = new int[MAX_ROADS];
        private final int[] group = new int[MAX_TAVERNS];

        void begin(Plan plan) {
            taverns = plan.taverns;
            count = plan.roads;
            System.arraycopy(plan.from, 0, from, 0, MAX_ROADS);
            System.arraycopy(plan.to, 0, to, 0, MAX_ROADS);
            for (int road = 0; road < count; road++) {
                shape(road, plan.miles[road], 0);
            }
            forgetWays();
        }

        void copy(Roads other) {
            taverns = other.taverns;
            count = other.count;
            System.arraycopy(other.from, 0, from, 0, MAX_ROADS);
            System.arraycopy(other.to, 0, to, 0, MAX_ROADS);
            System.arraycopy(other.miles, 0, miles, 0, MAX_ROADS);
            System.arraycopy(other.wounds, 0, wounds, 0, MAX_ROADS);
            System.arraycopy(other.length, 0, length, 0, MAX_ROADS);
            forgetWays();
        }

        /** All changes of roads go this way, so that what is known of ways is never old. */
        void shape(int road, int newMiles, int newWounds) {
            miles[road] = newMiles;
            wounds[road] = newWounds;
            length[road] = newMiles + MILES_OF_A_WOUND * newWounds;
            forgetWays();
        }

        private void forgetWays() {
            for (int tavern = 0; tavern < MAX_TAVERNS; tavern++) {
                rowIsFresh[tavern] = false;
            }
            netWithout = STALE;
        }

        boolean addWounds(int road, int by) {
            boolean canChange = has(road) && wounds[road] < BROKEN && by > 0;
            if (canChange) {
                shape(road, miles[road], Math.min(BROKEN, wounds[road] + by));
            }
            return canChange;
        }

        boolean takeWound(int road) {
            boolean hasOne = has(road) && wounds[road] > 0;
            if (hasOne) {
                shape(road, miles[road], wounds[road] - 1);
            }
            return hasOne;
        }

        private boolean has(int road) {
            return road >= 0 && road < count;
        }

        int lengthOf(int road) {
            return has(road) ? length[road] : 0;
        }

        int woundsOf(int road) {
            return has(road) ? wounds[road] : 0;
        }

        boolean isOpen(int road) {
            return has(road) && wounds[road] < BROKEN;
        }

        int openRoads() {
            int open = 0;
            for (int road = 0; road < count; road++) {
                open += isOpen(road) ? 1 : 0;
            }
            return open;
        }

        int lengthOfOpen() {
            int sum = 0;
            for (int road = 0; road < count; road++) {
                sum += isOpen(road) ? length[road] : 0;
            }
            return sum;
        }

        boolean leadsTo(int road, int tavern) {
            return from[road] == tavern || to[road] == tavern;
        }

        int otherEnd(int road, int tavern) {
            return from[road] == tavern ? to[road] : from[road];
        }

        int openAt(int tavern) {
            int open = 0;
            for (int road = 0; road < count; road++) {
                open += isOpen(road) && leadsTo(road, tavern) ? 1 : 0;
            }
            return open;
        }

        int between(int a, int b) {
            if (a < 0 || a >= taverns || b < 0 || b >= taverns) {
                return NONE;
            }
            if (!rowIsFresh[a]) {
                fillRow(rows[a], a, NONE);
                rowIsFresh[a] = true;
            }
            int far = rows[a][b];
            return far == UNREACHED ? NONE : far;
        }

        /** Fills in how far each tavern is from one of them, over all open roads but one. */
        private void fillRow(int[] row, int start, int without) {
            for (int tavern = 0; tavern < taverns; tavern++) {
                row[tavern] = tavern == start ? 0 : UNREACHED;
            }
            boolean changes = true;
            for (int round = 0; changes && round < taverns; round++) {
                changes = false;
                for (int road = 0; road < count; road++) {
                    if (road != without && wounds[road] < BROKEN) {
                        int a = from[road];
                        int b = to[road];
                        if (row[a] + length[road] < row[b]) {
                            row[b] = row[a] + length[road];
                            changes = true;
                        } else if (row[b] + length[road] < row[a]) {
                            row[a] = row[b] + length[road];
                            changes = true;
                        }
                    }
                }
            }
        }

        int partOf(int tavern) {
            int part = 0;
            while (part < tavern && between(tavern, part) == NONE) {
                part++;
            }
            return part;
        }

        int farthestFrom(int tavern) {
            int farthest = 0;
            for (int other = 0; other < taverns; other++) {
                farthest = Math.max(farthest, between(tavern, other));
            }
            return farthest;
        }

        int nextTavern(int a, int b) {
            int far = between(a, b);
            if (a == b || far == NONE) {
                return a == b ? a : NONE;
            }
            int next = NONE;
            for (int road = 0; road < count; road++) {
                if (isOpen(road) && leadsTo(road, a)) {
                    int other = otherEnd(road, a);
                    boolean onTheWay = between(other, b) != NONE && length[road] + between(other, b) == far;
                    if (onTheWay && (next == NONE || other < next)) {
                        next = other;
                    }
                }
            }
            return next;
        }

        int lengthAround(int road) {
            fillRow(rowAround, from[road], road);
            int far = rowAround[to[road]];
            return far == UNREACHED ? NONE : far;
        }

        boolean isSpan(int road) {
            return isOpen(road) && lengthAround(road) == NONE;
        }

        int spansWith(int leastWounds) {
            int spans = 0;
            for (int road = 0; road < count; road++) {
                spans += wounds[road] >= leastWounds && isSpan(road) ? 1 : 0;
            }
            return spans;
        }

        boolean isInNet(int road) {
            layNet(NONE);
            return inNet[road];
        }

        int lengthOfNet() {
            layNet(NONE);
            return netLength;
        }

        /** Each road of the net joins two parts to one. */
        int parts() {
            layNet(NONE);
            return taverns - netRoads;
        }

        int substituteFor(int road) {
            if (!isInNet(road)) {
                return NONE;
            }
            for (int other = 0; other < count; other++) {
                inNetBefore[other] = inNet[other];
            }
            layNet(road);
            for (int other = 0; other < count; other++) {
                if (inNet[other] && !inNetBefore[other]) {
                    return other;
                }
            }
            return NONE;
        }

        private void layNet(int without) {
            if (netWithout == without) {
                return;
            }
            netWithout = without;
            netRoads = 0;
            netLength = 0;
            for (int tavern = 0; tavern < taverns; tavern++) {
                group[tavern] = tavern;
            }
            for (int road = 0; road < count; road++) {
                inNet[road] = false;
            }
            int candidates = sortOpen(without);
            for (int i = 0; i < candidates; i++) {
                int road = shortestFirst[i];
                if (group[from[road]] != group[to[road]]) {
                    joinGroups(group[from[road]], group[to[road]]);
                    inNet[road] = true;
                    netRoads++;
                    netLength += length[road];
                }
            }
        }

        private void joinGroups(int kept, int joined) {
            for (int tavern = 0; tavern < taverns; tavern++) {
                if (group[tavern] == joined) {
                    group[tavern] = kept;
                }
            }
        }

        /** Puts each road behind those as long, so that the smaller number stays ahead. */
        private int sortOpen(int without) {
            int sorted = 0;
            for (int road = 0; road < count; road++) {
                if (road != without && isOpen(road)) {
                    int place = sorted;
                    while (place > 0 && length[shortestFirst[place - 1]] > length[road]) {
                        shortestFirst[place] = shortestFirst[place - 1];
                        place--;
                    }
                    shortestFirst[place] = road;
                    sorted++;
                }
            }
            return sorted;
        }
    }

    /** Reckons the sums and tests of a land's orders; what holds is 1, what does not 0. */
    private static final class Reckoner {
        private final int[] stack = new int[MAX_STACK];
        private int height = 0;

        int reckon(Land land, int codeFrom, int codeEnd) {
            height = 0;
            for (int place = codeFrom; place < codeEnd; place++) {
                int token = land.plan.codeAt(place);
                Kind kind = land.plan.tokens.kindOf(token);
                if (kind.operands == 2) {
                    int right = pop();
                    int left = pop();
                    push(joined(kind, left, right));
                } else if (kind.operands == 1) {
                    int value = pop();
                    push(kind == Kind.NEGATE ? -value : 1 - value);
                } else {
                    push(fact(land, kind, token));
                }
            }
            return pop();
        }

        private void push(int value) {
            if (height < MAX_STACK) {
                stack[height] = value;
                height++;
            }
        }

        private int pop() {
            if (height == 0) {
                return 0;
            }
            height--;
            return stack[height];
        }

        private static int joined(Kind kind, int left, int right) {
            switch (kind) {
                case PLUS:
                    return left + right;
                case MINUS:
                    return left - right;
                case TIMES:
                    return left * right;
                case OVER:
                    return right == 0 ? 0 : left / right;
                case MIN:
                    return Math.min(left, right);
                case MAX:
                    return Math.max(left, right);
                default:
                    return holds(kind, left, right) ? 1 : 0;
            }
        }

        private static boolean holds(Kind kind, int left, int right) {
            switch (kind) {
                case LESS:
                    return left < right;
                case GREATER:
                    return left > right;
                case EQUAL:
                    return left == right;
                case AT_MOST:
                    return left <= right;
                case AT_LEAST:
                    return left >= right;
                case AND:
                    return left != 0 && right != 0;
                default:
                    return left != 0 || right != 0;
            }
        }

        private static int fact(Land land, Kind kind, int token) {
            int first = land.plan.tokens.valueOf(token + 1);
            int second = land.plan.tokens.valueOf(token + 2);
            switch (kind) {
                case NUMBER:
                    return land.plan.tokens.valueOf(token);
                case HOUR:
                    return land.hour;
                case LENGTH:
                    return land.roads.lengthOf(first);
                case WOUNDS:
                    return land.roads.woundsOf(first);
                case HEARD:
                    return land.knowersOf(first);
                case FAR:
                    return land.roads.between(first, second);
                case OPEN:
                    return land.roads.isOpen(first) ? 1 : 0;
                case KNOWS:
                    return land.knows(first, second) ? 1 : 0;
                case PARTED:
                    return land.roads.between(first, second) == NONE ? 1 : 0;
                default:
                    return 0;
            }
        }
    }

    /** All that hours and hands change: who knows what since when, who is on which road, and the roads. */
    private static final class Land {
        final Roads roads = new Roads();
        private final Reckoner reckoner = new Reckoner();
        private Plan plan;
        int hour = 0;
        private int carriedOut = 0;
        private int lost = 0;
        /** For each tavern a row of rumours, as long as the most that there can be. */
        private final int[] heardOn = new int[MAX_TAVERNS * MAX_RUMOURS];
        private final boolean[] sentOut = new boolean[MAX_TAVERNS * MAX_RUMOURS];
        private final boolean[] hushed = new boolean[MAX_TAVERNS];
        /** Travellers, in the order in which they set out. */
        private int walkers = 0;
        private final int[] walkerRoad = new int[MAX_WALKERS];
        private final int[] walkerGoal = new int[MAX_WALKERS];
        private final int[] walkerRumour = new int[MAX_WALKERS];
        private final int[] walkerMiles = new int[MAX_WALKERS];

        Land(Plan plan) {
            this.plan = plan;
        }

        /** The hour stays as it is. */
        void begin(Plan newPlan) {
            plan = newPlan;
            roads.begin(newPlan);
            carriedOut = 0;
            lost = 0;
            walkers = 0;
            Arrays.fill(heardOn, NONE);
            for (int i = 0; i < sentOut.length; i++) {
                sentOut[i] = false;
            }
        }

        void copy(Land other) {
            plan = other.plan;
            roads.copy(other.roads);
            hour = other.hour;
            carriedOut = other.carriedOut;
            lost = other.lost;
            System.arraycopy(other.heardOn, 0, heardOn, 0, heardOn.length);
            for (int i = 0; i < sentOut.length; i++) {
                sentOut[i] = other.sentOut[i];
            }
            walkers = other.walkers;
            System.arraycopy(other.walkerRoad, 0, walkerRoad, 0, walkers);
            System.arraycopy(other.walkerGoal, 0, walkerGoal, 0, walkers);
            System.arraycopy(other.walkerRumour, 0, walkerRumour, 0, walkers);
            System.arraycopy(other.walkerMiles, 0, walkerMiles, 0, walkers);
        }

        int hourOfHearing(int tavern, int rumour) {
            return heardOn[tavern * MAX_RUMOURS + rumour];
        }

        private boolean has(int tavern, int rumour) {
            return tavern >= 0 && tavern < plan.taverns && rumour >= 0 && rumour < plan.rumours;
        }

        boolean knows(int tavern, int rumour) {
            return has(tavern, rumour) && heardOn[tavern * MAX_RUMOURS + rumour] != NONE;
        }

        /** Returns whether it did not know it before. */
        boolean hears(int tavern, int rumour) {
            boolean isNew = has(tavern, rumour) && !knows(tavern, rumour);
            if (isNew) {
                heardOn[tavern * MAX_RUMOURS + rumour] = hour;
            }
            return isNew;
        }

        int knowersOf(int rumour) {
            int knowers = 0;
            boolean isOne = rumour >= 0 && rumour < plan.rumours;
            for (int tavern = 0; isOne && tavern < plan.taverns; tavern++) {
                knowers += heardOn[tavern * MAX_RUMOURS + rumour] == NONE ? 0 : 1;
            }
            return knowers;
        }

        int knownBy(int tavern) {
            int known = 0;
            for (int rumour = 0; rumour < plan.rumours; rumour++) {
                known += knows(tavern, rumour) ? 1 : 0;
            }
            return known;
        }

        private int knownByAll() {
            int known = 0;
            for (int tavern = 0; tavern < plan.taverns; tavern++) {
                known += knownBy(tavern);
            }
            return known;
        }

        int walkersOn(int road) {
            int found = 0;
            for (int walker = 0; walker < walkers; walker++) {
                found += walkerRoad[walker] == road ? 1 : 0;
            }
            return found;
        }

        int walkersWith(int rumour) {
            int found = 0;
            for (int walker = 0; walker < walkers; walker++) {
                found += walkerRumour[walker] == rumour ? 1 : 0;
            }
            return found;
        }

        /** What count() tells for 5 to 13. */
        int tally(int what) {
            switch (what) {
                case 5:
                    return roads.openRoads();
                case 6:
                    return roads.spansWith(0);
                case 7:
                    return roads.parts();
                case 8:
                    return walkers;
                case 9:
                    return knownByAll();
                case 10:
                    return carriedOut;
                case 11:
                    return roads.lengthOfNet();
                case 12:
                    return roads.spansWith(1);
                default:
                    return lost;
            }
        }

        /** Returns how often a tavern heard what it did not know. */
        int passHours(int hours) {
            int heard = 0;
            for (int i = 0; i < hours; i++) {
                giveOrders();
                loseWalkers();
                heard += beginRumours();
                heard += moveWalkers();
                sendWalkers();
                hour++;
            }
            return heard;
        }

        private void giveOrders() {
            for (int tavern = 0; tavern < MAX_TAVERNS; tavern++) {
                hushed[tavern] = false;
            }
            for (int order = 0; order < plan.orders; order++) {
                boolean holds = reckoner.reckon(this, plan.testFrom[order], plan.testEnd[order]) != 0;
                int sum = reckoner.reckon(this, plan.sumFrom[order], plan.testFrom[order]);
                if (holds && carryOut(order, sum)) {
                    carriedOut++;
                }
            }
        }

        /** Returns whether something changed. */
        private boolean carryOut(int order, int sum) {
            int target = plan.targetOfOrder(order);
            switch (plan.kindOfOrder(order)) {
                case HURT:
                    return roads.addWounds(target, Math.max(0, Math.min(BROKEN, sum)));
                case MEND:
                    return roads.takeWound(target);
                default:
                    boolean canChange = target >= 0 && target < plan.taverns && !hushed[target];
                    if (canChange) {
                        hushed[target] = true;
                    }
                    return canChange;
            }
        }

        private void loseWalkers() {
            int kept = 0;
            for (int walker = 0; walker < walkers; walker++) {
                if (roads.isOpen(walkerRoad[walker])) {
                    keepWalker(kept, walker);
                    kept++;
                }
            }
            lost += walkers - kept;
            walkers = kept;
        }

        private void keepWalker(int place, int walker) {
            walkerRoad[place] = walkerRoad[walker];
            walkerGoal[place] = walkerGoal[walker];
            walkerRumour[place] = walkerRumour[walker];
            walkerMiles[place] = walkerMiles[walker];
        }

        private int beginRumours() {
            int heard = 0;
            for (int rumour = 0; rumour < plan.rumours; rumour++) {
                if (plan.beginsOn[rumour] == hour && hears(plan.beginsAt[rumour], rumour)) {
                    heard++;
                }
            }
            return heard;
        }

        private int moveWalkers() {
            int heard = 0;
            int kept = 0;
            for (int walker = 0; walker < walkers; walker++) {
                walkerMiles[walker]++;
                if (walkerMiles[walker] < roads.length[walkerRoad[walker]]) {
                    keepWalker(kept, walker);
                    kept++;
                } else if (hears(walkerGoal[walker], walkerRumour[walker])) {
                    heard++;
                }
            }
            walkers = kept;
            return heard;
        }

        private void sendWalkers() {
            for (int tavern = 0; tavern < plan.taverns; tavern++) {
                for (int rumour = 0; rumour < plan.rumours && !hushed[tavern]; rumour++) {
                    int place = tavern * MAX_RUMOURS + rumour;
                    if (heardOn[place] != NONE && !sentOut[place]) {
                        sentOut[place] = true;
                        sendFrom(tavern, rumour);
                    }
                }
            }
        }

        private void sendFrom(int tavern, int rumour) {
            for (int road = 0; road < roads.count && walkers < MAX_WALKERS; road++) {
                if (roads.isOpen(road) && roads.leadsTo(road, tavern)) {
                    walkerRoad[walkers] = road;
                    walkerGoal[walkers] = roads.otherEnd(road, tavern);
                    walkerRumour[walkers] = rumour;
                    walkerMiles[walkers] = 0;
                    walkers++;
                }
            }
        }
    }
}
