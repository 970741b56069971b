import java.util.Arrays;

/** Which way through the rapids: ../shared/DOC.md says what each call does, answers and refuses. */
public final class RiverDown {
    public static final int NONE = -1, BAD = -2, STATE = -3, FULL = -4;
    public static final long NO = -4611686018427387904L;

    private static final int NOTHING = -11, OUTSIDE = -12, OTHER_SORT = -13, BELOW_ZERO = -14;
    private static final int FAULT_BASE = -100;
    private static final int MOST_PLACES = 12, MOST_DOINGS = 8, MOST_TEXTS = 6, MOST_BYTES = 160;
    private static final int MOST_BOATS = 6, MOST_HALF_DAYS = 60, MOST_WATER = 9, MOST_NUMBER = 9;
    private static final int SHEETS = 4, SORTS = 3, MOST_ITEMS = 40;
    private static final long ALL_PARTS = 1000000000L;

    /** The numbers of a river, as set() counts them: the first four are of a place. */
    private static final int FALL = 0, ROCKS = 1, BANK = 2, LOOKED = 3, WATER = 4, DEEP = 5,
            BOATS = 6, LOAD = 7, SNOW = 8;
    private static final int OF_PLACE = 4;
    private static final int[] GREATEST = {9, 9, 1, 1, 9, 9, 6, 99, 60};

    private static final String FIRST_RULE =
            "risk fall * 4 + rocks - looked * 9 ; wet fall + deep - looked ; worth load * 10 ;";

    private final Journey journey = new Journey();
    private final Reader reader = new Reader();
    private final Planner planner = new Planner(journey);
    private final Flow flow = new Flow();
    private final Sheet[] sheets = new Sheet[SHEETS];
    private final River kept = new River();
    private boolean hasImage = false;

    public RiverDown() {
        for (int i = 0; i < SHEETS; i++) {
            sheets[i] = new Sheet();
        }
        for (int i = 0; i < FIRST_RULE.length(); i++) {
            reader.addByte(FIRST_RULE.charAt(i));
        }
        if (reader.readTape() == NONE) {
            journey.rules.add(reader.result());
        }
        reader.emptyTape();
    }

    // ---- the river, doings

    public int place(int what) {
        if (!tellsPlace(what)) {
            return BAD;
        }
        return journey.river.size < MOST_PLACES ? journey.river.add(what) : FULL;
    }

    public int set(int what, int of, int v) {
        if (what < 0 || what >= GREATEST.length) {
            return BAD;
        }
        if (what < OF_PLACE && !journey.river.has(of)) {
            return BAD;
        }
        if (v < 0 || v > GREATEST[what]) {
            return BAD;
        }
        int was = journey.river.number(what, of);
        journey.river.change(what, of, v);
        return was;
    }

    public int doing(int kind, int number) {
        if (!isKind(kind) || number < 0 || number > MOST_NUMBER) {
            return BAD;
        }
        return journey.doingCount < MOST_DOINGS ? journey.add(new Doing(kind, number)) : FULL;
    }

    public int told(int doing, int place, int what) {
        if (!journey.hasDoing(doing) || !journey.river.has(place)) {
            return BAD;
        }
        Doing one = journey.doings[doing];
        switch (what) {
            case 0: return one.kind;
            case 1: return one.halfDays();
            case 2: return journey.riskAt(doing, place);
            case 3: return journey.wetsAt(doing, place);
            case 4: return journey.mayAt(doing, place) ? 1 : 0;
            case 5: return one.number;
            default: return BAD;
        }
    }

    // ---- texts

    public int feed(int n, long bytes) {
        if (n < 1 || n > 8) {
            return BAD;
        }
        if (reader.size + n > MOST_BYTES) {
            return FULL;
        }
        for (int i = 0; i < n; i++) {
            reader.addByte((int) (bytes >>> (8 * i)) & 255);
        }
        return reader.size;
    }

    public int text() {
        if (journey.rules.size >= MOST_TEXTS) {
            return FULL;
        }
        int fault = reader.readTape();
        reader.emptyTape();
        return fault == NONE ? journey.rules.add(reader.result()) : FAULT_BASE - fault;
    }

    public int force(int text) {
        if (!journey.rules.has(text)) {
            return BAD;
        }
        int was = journey.river.rule;
        journey.river.rule = text;
        return was;
    }

    public int worth() {
        return journey.boatsWorth();
    }

    // ---- told ways

    public long parts(int sheet, int place, int b) {
        if (wayRefusal(sheet) != 0 || !journey.river.has(place) || b < 0 || b > MOST_BOATS) {
            return NO;
        }
        flowDown(sheets[sheet], place + 1);
        return flow.parts[b];
    }

    public long mean(int sheet) {
        if (wayRefusal(sheet) != 0) {
            return NO;
        }
        Sheet way = sheets[sheet];
        long lost = 0;
        flow.begin(journey.river.number(BOATS, 0));
        for (int place = 0; place < journey.river.size; place++) {
            int told = way.items[place];
            lost += flow.boatParts() * 10 * journey.wetsAt(told, place);
            flow.pass(journey.riskAt(told, place));
        }
        return (flow.boatParts() * journey.boatsWorth() - lost) / ALL_PARTS;
    }

    public int takes(int sheet, int what) {
        if (what < 0 || what > 1) {
            return BAD;
        }
        int refusal = wayRefusal(sheet);
        if (refusal != 0) {
            return refusal;
        }
        int together = 0;
        for (int place = 0; place < journey.river.size; place++) {
            together += journey.doings[sheets[sheet].items[place]].halfDays();
            if (what == 1 && together > journey.river.number(SNOW, 0)) {
                return place;
            }
        }
        return what == 0 ? together : NONE;
    }

    public long odds(int sheet, int k) {
        if (wayRefusal(sheet) != 0 || k < 0 || k > MOST_BOATS + 1) {
            return NO;
        }
        flowDown(sheets[sheet], journey.river.size);
        long sum = 0;
        for (int b = k; b <= MOST_BOATS; b++) {
            sum += flow.parts[b];
        }
        return sum;
    }

    public int drawn(int sheet, int seed) {
        int refusal = wayRefusal(sheet);
        if (refusal != 0) {
            return refusal;
        }
        int z = seed;
        int boats = journey.river.number(BOATS, 0);
        for (int place = 0; place < journey.river.size; place++) {
            int risk = journey.riskAt(sheets[sheet].items[place], place);
            int lost = 0;
            for (int i = 0; i < boats; i++) {
                z = z * 1103515245 + 12345;
                if ((z >>> 8) % 100 < risk) {
                    lost++;
                }
            }
            boats -= lost;
        }
        return boats;
    }

    public int judge(int sheet) {
        int refusal = sizeRefusal(sheet);
        if (refusal != 0) {
            return refusal;
        }
        for (int place = 0; place < journey.river.size; place++) {
            int told = sheets[sheet].items[place];
            if (!journey.hasDoing(told) || !journey.mayAt(told, place)) {
                return place;
            }
        }
        return NONE;
    }

    // ---- the best

    public long value(int place, int bh) {
        boolean behindLast = place == journey.river.size;
        if (!behindLast && !journey.river.has(place) || !tellsBoats(bh)) {
            return NO;
        }
        return planner.solve(place, bh / 100, bh % 100);
    }

    public int best(int place, int bh) {
        if (!journey.river.has(place) || !tellsBoats(bh)) {
            return BAD;
        }
        planner.solve(place, bh / 100, bh % 100);
        return planner.chosen[place];
    }

    public long look(int place) {
        if (!journey.river.has(place)) {
            return NO;
        }
        int snow = journey.river.number(SNOW, 0);
        return gain(LOOKED, place, 1, Math.max(0, snow - 1));
    }

    public long rises(int n) {
        if (n < 0 || n > MOST_WATER) {
            return NO;
        }
        River river = journey.river;
        int water = Math.min(MOST_WATER, river.number(WATER, 0) + n);
        return gain(WATER, 0, water, river.number(SNOW, 0));
    }

    public long more(int what) {
        if (what < 0 || what > 1) {
            return NO;
        }
        int snow = journey.river.number(SNOW, 0);
        if (what == 0) {
            int boats = Math.min(MOST_BOATS, journey.river.number(BOATS, 0) + 1);
            return gain(BOATS, 0, boats, snow);
        }
        int later = Math.min(MOST_HALF_DAYS, snow + 2);
        return gain(SNOW, 0, later, later);
    }

    public int worst() {
        River river = journey.river;
        planner.solve(0, river.number(BOATS, 0), river.number(SNOW, 0));
        int worst = NONE;
        int most = -1;
        for (int place = 0; place < river.size; place++) {
            int chosen = planner.chosen[place];
            int risk = chosen == NONE ? -1 : journey.riskAt(chosen, place);
            if (risk > most) {
                most = risk;
                worst = place;
            }
        }
        return worst;
    }

    /** Whether a value is there hangs on half days alone: on the quickest doing of each place. */
    public int last() {
        int together = 0;
        for (int place = 0; place < journey.river.size; place++) {
            int fewest = journey.fewestHalfDays(place);
            if (fewest == NONE) {
                return NONE;
            }
            together += fewest;
        }
        return together <= MOST_HALF_DAYS ? together : NONE;
    }

    public int image() {
        kept.takeOver(journey.river);
        kept.size = journey.river.size;
        hasImage = true;
        return kept.size;
    }

    public int back() {
        if (!hasImage) {
            return STATE;
        }
        journey.river.takeOver(kept);
        return journey.river.size;
    }

    public int count(int what) {
        switch (what) {
            case 0: return journey.river.size;
            case 1: return journey.doingCount;
            case 2: return journey.rules.size;
            case 3: return reader.size;
            case 4: return journey.river.rule;
            case 5: return journey.river.number(WATER, 0);
            case 6: return journey.river.number(DEEP, 0);
            case 7: return journey.river.number(BOATS, 0);
            case 8: return journey.river.number(LOAD, 0);
            case 9: return journey.river.number(SNOW, 0);
            default: return BAD;
        }
    }

    // ---- the host

    public int sheet(int sheet, int sort, int n) {
        if (!isSheet(sheet) || sort != Sheet.MISSING && !isSort(sort)) {
            return BAD;
        }
        if (sort == Sheet.MISSING) {
            sheets[sheet].remake(sort, 0);
            return 1;
        }
        if (n > MOST_ITEMS) {
            return BAD;
        }
        if (n < 0) {
            return BELOW_ZERO;
        }
        sheets[sheet].remake(sort, n);
        return 1;
    }

    public int cell(int sheet, int i, int v) {
        if (!isSheet(sheet)) {
            return BAD;
        }
        Sheet row = sheets[sheet];
        if (row.isMissing()) {
            return NOTHING;
        }
        if (!row.has(i)) {
            return OUTSIDE;
        }
        row.put(i, v);
        return 1;
    }

    public int copy(int sheet, int i, int other, int j, int n) {
        if (!isSheet(sheet) || !isSheet(other)) {
            return BAD;
        }
        Sheet from = sheets[sheet];
        Sheet to = sheets[other];
        if (from.isMissing() || to.isMissing()) {
            return NOTHING;
        }
        if (from.sort != to.sort) {
            return OTHER_SORT;
        }
        if (!from.hasRun(i, n) || !to.hasRun(j, n)) {
            return OUTSIDE;
        }
        System.arraycopy(from.items, i, to.items, j, n);
        return n;
    }

    public int places(int sheet, int sort, int from, int n) {
        if (!isSheet(sheet) || !isSort(sort) || n < 0 || n > MOST_PLACES) {
            return BAD;
        }
        Sheet row = sheets[sheet];
        if (row.isMissing()) {
            return NOTHING;
        }
        if (row.sort != sort) {
            return OTHER_SORT;
        }
        int came = 0;
        for (int i = 0; i < n; i++) {
            if (!row.has(from + i)) {
                return OUTSIDE;
            }
            if (place(row.items[from + i]) >= 0) {
                came++;
            }
        }
        return came;
    }

    public int taken(int doing, int k) {
        if (!isKind(k)) {
            return BAD;
        }
        if (!journey.hasDoing(doing)) {
            return NOTHING;
        }
        Doing one = journey.doings[doing];
        return one.isUnder(k) ? one.number : OTHER_SORT;
    }

    // ---- what several calls ask

    private static boolean tellsPlace(int what) {
        return what >= 0 && what <= 999 && what % 10 <= 1;
    }

    private static boolean isKind(int kind) {
        return kind >= 0 && kind < Doing.UNDER.length;
    }

    private static boolean isSort(int sort) {
        return sort >= 0 && sort < SORTS;
    }

    private static boolean isSheet(int sheet) {
        return sheet >= 0 && sheet < SHEETS;
    }

    private static boolean tellsBoats(int bh) {
        return bh >= 0 && bh / 100 <= MOST_BOATS && bh % 100 <= MOST_HALF_DAYS;
    }

    /** 0, or why a sheet has not one number for each place. */
    private int sizeRefusal(int sheet) {
        if (!isSheet(sheet)) {
            return BAD;
        }
        if (sheets[sheet].isMissing()) {
            return NOTHING;
        }
        return sheets[sheet].size == journey.river.size ? 0 : BAD;
    }

    /** 0, or why a sheet tells no way. */
    private int wayRefusal(int sheet) {
        int refusal = sizeRefusal(sheet);
        if (refusal != 0) {
            return refusal;
        }
        for (int i = 0; i < sheets[sheet].size; i++) {
            if (!journey.hasDoing(sheets[sheet].items[i])) {
                return BAD;
            }
        }
        return 0;
    }

    /** Leaves in flow what has come through the first places of a way that holds. */
    private void flowDown(Sheet way, int placesPassed) {
        flow.begin(journey.river.number(BOATS, 0));
        for (int place = 0; place < placesPassed; place++) {
            flow.pass(journey.riskAt(way.items[place], place));
        }
    }

    /** How much the value at the first place grows, were one number v and so many half days left. */
    private long gain(int what, int of, int v, int halfDays) {
        River river = journey.river;
        int now = planner.solve(0, river.number(BOATS, 0), river.number(SNOW, 0));
        int was = river.number(what, of);
        river.change(what, of, v);
        int then = planner.solve(0, river.number(BOATS, 0), halfDays);
        river.change(what, of, was);
        return Math.max(0, then) - Math.max(0, now);
    }

    private static int bounded(int v, int greatest) {
        return Math.max(0, Math.min(greatest, v));
    }

    /** The places, the numbers that hold for all of them, and which text is the rule. */
    private static final class River {
        private final int[] ofPlaces = new int[MOST_PLACES * OF_PLACE];
        private final int[] ofAll = {4, 3, 4, 40, 24};
        private int size = 0;
        private int rule = 0;

        boolean has(int place) {
            return place >= 0 && place < size;
        }

        /** For a number of a place the place must be there; for the others it does not matter. */
        int number(int what, int place) {
            return what < OF_PLACE ? ofPlaces[place * OF_PLACE + what] : ofAll[what - OF_PLACE];
        }

        void change(int what, int place, int v) {
            if (what < OF_PLACE) {
                ofPlaces[place * OF_PLACE + what] = v;
            } else {
                ofAll[what - OF_PLACE] = v;
            }
        }

        int add(int what) {
            int place = size;
            size++;
            change(FALL, place, what / 100);
            change(ROCKS, place, what / 10 % 10);
            change(BANK, place, what % 10);
            change(LOOKED, place, 0);
            return place;
        }

        /** Places that the other one has not stay as they are. */
        void takeOver(River other) {
            System.arraycopy(other.ofPlaces, 0, ofPlaces, 0, other.size * OF_PLACE);
            System.arraycopy(other.ofAll, 0, ofAll, 0, ofAll.length);
            rule = other.rule;
        }
    }

    /** One way to pass a place; it gets what a run there would risk and wet, without bounds. */
    private static final class Doing {
        static final int RUN = 0, ROPE = 1, CARRY = 2, HALF = 3, EASED = 4;
        /** The kind above each kind, as the document tells them. */
        static final int[] UNDER = {NONE, RUN, RUN, RUN, ROPE, CARRY};
        /** No doing takes more: a carry, or an eased rope with the number 9. */
        static final int MOST_TAKEN = 4;

        private final int kind;
        private final int number;

        Doing(int kind, int number) {
            this.kind = kind;
            this.number = number;
        }

        boolean isUnder(int above) {
            int k = kind;
            for (int i = 0; i < UNDER.length && k != NONE; i++) {
                if (k == above) {
                    return true;
                }
                k = UNDER[k];
            }
            return false;
        }

        int halfDays() {
            switch (kind) {
                case RUN: return 0;
                case ROPE: return 1;
                case CARRY: return 4;
                case HALF: return 1 + number / 4;
                case EASED: return 1 + number / 3;
                default: return 2;
            }
        }

        int risk(int ofRun) {
            switch (kind) {
                case RUN: return bounded(ofRun, 100);
                case ROPE: return bounded(ofRun / 4, 100);
                case CARRY: return 0;
                case HALF: return bounded(ofRun / 2, 100);
                case EASED: return bounded(ofRun / 4 - number, 100);
                default: return 2;
            }
        }

        int wets(int ofRun, int load) {
            switch (kind) {
                case RUN: case HALF: return bounded(ofRun, load);
                case ROPE: case EASED: return bounded(ofRun / 3, load);
                case CARRY: return bounded(number, load);
                default: return bounded(2 * number, load);
            }
        }

        boolean may(int rocks, int bank, int water) {
            switch (kind) {
                case RUN: case HALF: return true;
                case ROPE: case EASED: return rocks < 8;
                case CARRY: return bank == 1;
                default: return bank == 1 && water < 7;
            }
        }
    }

    /** The river with the doings and the rule by which they pass its places. */
    private static final class Journey {
        private final River river = new River();
        private final Rules rules = new Rules();
        private final Doing[] doings = new Doing[MOST_DOINGS];
        private int doingCount = 0;

        boolean hasDoing(int doing) {
            return doing >= 0 && doing < doingCount;
        }

        int add(Doing one) {
            int doing = doingCount;
            doings[doing] = one;
            doingCount++;
            return doing;
        }

        int runRisk(int place) {
            rules.nameNumbers(river, place);
            return rules.evaluate(rules.texts[river.rule].risk);
        }

        int runWets(int place) {
            rules.nameNumbers(river, place);
            return rules.evaluate(rules.texts[river.rule].wet);
        }

        int boatsWorth() {
            rules.nameNumbers(river, NONE);
            return bounded(rules.evaluate(rules.texts[river.rule].worth), 9999);
        }

        int riskAt(int doing, int place) {
            return doings[doing].risk(runRisk(place));
        }

        int wetsAt(int doing, int place) {
            return doings[doing].wets(runWets(place), river.number(LOAD, 0));
        }

        boolean mayAt(int doing, int place) {
            return doings[doing].may(river.number(ROCKS, place), river.number(BANK, place),
                    river.number(WATER, 0));
        }

        /** NONE: no doing may pass there. */
        int fewestHalfDays(int place) {
            int fewest = NONE;
            for (int doing = 0; doing < doingCount; doing++) {
                int halfDays = doings[doing].halfDays();
                if (mayAt(doing, place) && (fewest == NONE || halfDays < fewest)) {
                    fewest = halfDays;
                }
            }
            return fewest;
        }
    }

    /** The three parts of a text as code: operands first, the sign that joins them behind. */
    private static final class Text {
        private final int[] risk;
        private final int[] wet;
        private final int[] worth;

        Text(int[] risk, int[] wet, int[] worth) {
            this.risk = risk;
            this.wet = wet;
            this.worth = worth;
        }
    }

    /** The texts, and what their code comes to. */
    private static final class Rules {
        private final Text[] texts = new Text[MOST_TEXTS];
        private int size = 0;
        private final int[] names = new int[6];
        private final int[] pile = new int[MOST_BYTES];

        boolean has(int text) {
            return text >= 0 && text < size;
        }

        int add(Text one) {
            int text = size;
            texts[text] = one;
            size++;
            return text;
        }

        /** NONE stands for no place, where fall, rocks and looked are 0. */
        void nameNumbers(River river, int place) {
            names[0] = place == NONE ? 0 : river.number(FALL, place);
            names[1] = place == NONE ? 0 : river.number(ROCKS, place);
            names[2] = river.number(WATER, 0);
            names[3] = river.number(DEEP, 0);
            names[4] = place == NONE ? 0 : river.number(LOOKED, place);
            names[5] = river.number(LOAD, 0);
        }

        int evaluate(int[] code) {
            int height = 0;
            for (int i = 0; i < code.length && height < pile.length; i++) {
                int c = code[i];
                if (c >= 0) {
                    pile[height] = c < Token.FIRST_NAME ? c : names[c - Token.FIRST_NAME];
                    height++;
                } else if (c == -Token.NOT && height > 0) {
                    pile[height - 1] = pile[height - 1] == 0 ? 1 : 0;
                } else if (c == -Token.NEGATE && height > 0) {
                    pile[height - 1] = -pile[height - 1];
                } else if (height > 1) {
                    height--;
                    pile[height - 1] = joined(-c, pile[height - 1], pile[height]);
                }
            }
            return height > 0 ? pile[0] : 0;
        }

        private static int joined(int sign, int a, int b) {
            switch (sign) {
                case '+': return a + b;
                case '-': return a - b;
                case '*': return a * b;
                case '<': return a < b ? 1 : 0;
                case '=': return a == b ? 1 : 0;
                case Token.AND: return a != 0 && b != 0 ? 1 : 0;
                default: return a != 0 || b != 0 ? 1 : 0;
            }
        }
    }

    /**
     * The kinds of tokens; a sign is its own byte, so these keep below 40. In code a number stands
     * for itself, a name for FIRST_NAME and its place among names, what joins for less than 0.
     */
    private static final class Token {
        static final int END = 1, NUMBER = 2, NAME = 3, WRONG = 4, RISK = 5, WET = 6, WORTH = 7,
                OR = 8, AND = 9, NOT = 10, NEGATE = 11;
        static final int FIRST_NAME = 10000, LONGEST_NUMBER = 4, MOST_OPEN = 5;
        static final String SIGNS = "();+-*<=";
    }

    /** The tape, and the reading of it. */
    private static final class Reader {
        private final int[] tape = new int[MOST_BYTES];
        private int size = 0;
        private final int[] kinds = new int[MOST_BYTES + 1];
        private final int[] starts = new int[MOST_BYTES + 1];
        private final int[] amounts = new int[MOST_BYTES + 1];
        private int tokens = 0;
        private int at = 0;
        private int fault = NONE;
        private final int[] code = new int[MOST_BYTES];
        private int codeSize = 0;
        private int riskEnd = 0;
        private int wetEnd = 0;

        void addByte(int b) {
            if (size < MOST_BYTES) {
                tape[size] = b;
                size++;
            }
        }

        void emptyTape() {
            size = 0;
        }

        /** NONE, or the place of the fault. */
        int readTape() {
            splitTape();
            at = 0;
            fault = NONE;
            codeSize = 0;
            readPart(Token.RISK);
            riskEnd = codeSize;
            readPart(Token.WET);
            wetEnd = codeSize;
            readPart(Token.WORTH);
            demand(Token.END);
            return fault;
        }

        /** What was read, where there was no fault. */
        Text result() {
            return new Text(Arrays.copyOfRange(code, 0, riskEnd),
                    Arrays.copyOfRange(code, riskEnd, wetEnd),
                    Arrays.copyOfRange(code, wetEnd, codeSize));
        }

        private void splitTape() {
            tokens = 0;
            for (int i = 0; i < size; i++) {
                if (!isBlank(tape[i]) && !continuesToken(i)) {
                    addToken(i, endOfRun(i));
                }
            }
            kinds[tokens] = Token.END;
            starts[tokens] = size;
        }

        private static boolean isBlank(int b) {
            return b == 32 || b == 10;
        }

        private static boolean isLetter(int b) {
            return b >= 'a' && b <= 'z';
        }

        private static boolean isDigit(int b) {
            return b >= '0' && b <= '9';
        }

        private boolean continuesToken(int i) {
            return i > 0 && (isLetter(tape[i]) && isLetter(tape[i - 1])
                    || isDigit(tape[i]) && isDigit(tape[i - 1]));
        }

        private int endOfRun(int from) {
            int end = from + 1;
            while (end < size && continuesToken(end)) {
                end++;
            }
            return end;
        }

        private void addToken(int from, int end) {
            int kind = tape[from];
            int amount = 0;
            if (isLetter(kind)) {
                amount = nameOf(from, end);
                kind = amount == NONE ? keyOf(from, end) : Token.NAME;
            } else if (isDigit(kind)) {
                amount = numberOf(from, end);
                kind = amount == NONE ? Token.WRONG : Token.NUMBER;
            } else if (Token.SIGNS.indexOf((char) kind) < 0) {
                kind = Token.WRONG;
            }
            kinds[tokens] = kind;
            starts[tokens] = from;
            amounts[tokens] = amount;
            tokens++;
        }

        /** NONE: it is too long. */
        private int numberOf(int from, int end) {
            if (end - from > Token.LONGEST_NUMBER) {
                return NONE;
            }
            int amount = 0;
            for (int i = from; i < end; i++) {
                amount = amount * 10 + tape[i] - '0';
            }
            return amount;
        }

        /** The name's place among the names of Rules; NONE: it is none. */
        private int nameOf(int from, int end) {
            if (isWord("fall", from, end)) return 0;
            if (isWord("rocks", from, end)) return 1;
            if (isWord("water", from, end)) return 2;
            if (isWord("deep", from, end)) return 3;
            if (isWord("looked", from, end)) return 4;
            if (isWord("load", from, end)) return 5;
            return NONE;
        }

        private int keyOf(int from, int end) {
            if (isWord("risk", from, end)) return Token.RISK;
            if (isWord("wet", from, end)) return Token.WET;
            if (isWord("worth", from, end)) return Token.WORTH;
            if (isWord("or", from, end)) return Token.OR;
            if (isWord("and", from, end)) return Token.AND;
            if (isWord("not", from, end)) return Token.NOT;
            return Token.WRONG;
        }

        private boolean isWord(String word, int from, int end) {
            if (end - from != word.length()) {
                return false;
            }
            for (int i = from; i < end; i++) {
                if (tape[i] != word.charAt(i - from)) {
                    return false;
                }
            }
            return true;
        }

        private void faultHere() {
            if (fault == NONE) {
                fault = starts[at];
            }
        }

        /** Goes behind the token if it is of that kind; never behind the end, nor on from a fault. */
        private boolean accept(int kind) {
            if (fault != NONE || kinds[at] != kind) {
                return false;
            }
            if (kind != Token.END) {
                at++;
            }
            return true;
        }

        private void demand(int kind) {
            if (!accept(kind)) {
                faultHere();
            }
        }

        /** Goes behind a token that opens one level more, if there is room for it. */
        private boolean acceptOpening(int kind, int open) {
            if (kinds[at] == kind && open >= Token.MOST_OPEN) {
                faultHere();
            }
            return accept(kind);
        }

        private void emit(int c) {
            if (codeSize < code.length) {
                code[codeSize] = c;
                codeSize++;
            }
        }

        private void readPart(int key) {
            demand(key);
            readOr(0);
            demand(';');
        }

        private void readOr(int open) {
            readAnd(open);
            for (int i = 0; i < MOST_BYTES && accept(Token.OR); i++) {
                readAnd(open);
                emit(-Token.OR);
            }
        }

        private void readAnd(int open) {
            readNot(open);
            for (int i = 0; i < MOST_BYTES && accept(Token.AND); i++) {
                readNot(open);
                emit(-Token.AND);
            }
        }

        private void readNot(int open) {
            if (acceptOpening(Token.NOT, open)) {
                readNot(open + 1);
                emit(-Token.NOT);
                return;
            }
            readSum(open);
            if (accept('<')) {
                readSum(open);
                emit(-'<');
            } else if (accept('=')) {
                readSum(open);
                emit(-'=');
            }
        }

        private void readSum(int open) {
            readTerm(open);
            for (int i = 0; i < MOST_BYTES; i++) {
                int sign = kinds[at];
                if (!accept('+') && !accept('-')) {
                    return;
                }
                readTerm(open);
                emit(-sign);
            }
        }

        private void readTerm(int open) {
            readOne(open);
            for (int i = 0; i < MOST_BYTES && accept('*'); i++) {
                readOne(open);
                emit(-'*');
            }
        }

        private void readOne(int open) {
            int amount = amounts[at];
            if (accept(Token.NUMBER)) {
                emit(amount);
            } else if (accept(Token.NAME)) {
                emit(Token.FIRST_NAME + amount);
            } else if (acceptOpening('-', open)) {
                readOne(open + 1);
                emit(-Token.NEGATE);
            } else if (acceptOpening('(', open)) {
                readOr(open + 1);
                demand(')');
            } else {
                faultHere();
            }
        }
    }

    /** CASES by one risk. */
    private static final class Cases {
        private static final int ROW = MOST_BOATS + 1;
        private static final int[] CHOICES = {
            1, 0, 0, 0, 0, 0, 0,
            1, 1, 0, 0, 0, 0, 0,
            1, 2, 1, 0, 0, 0, 0,
            1, 3, 3, 1, 0, 0, 0,
            1, 4, 6, 4, 1, 0, 0,
            1, 5, 10, 10, 5, 1, 0,
            1, 6, 15, 20, 15, 6, 1};
        /** 100 as many times as there are boats. */
        static final long[] HUNDREDS =
                {1L, 100L, 10000L, 1000000L, 100000000L, 10000000000L, 1000000000000L};

        private final long[] ways = new long[ROW * ROW];
        private final long[] saved = new long[ROW];
        private final long[] lost = new long[ROW];

        void reckon(int risk) {
            saved[0] = 1;
            lost[0] = 1;
            for (int i = 1; i < ROW; i++) {
                saved[i] = saved[i - 1] * (100 - risk);
                lost[i] = lost[i - 1] * risk;
            }
            for (int b = 0; b < ROW; b++) {
                for (int k = 0; k <= b; k++) {
                    ways[b * ROW + k] = CHOICES[b * ROW + k] * saved[k] * lost[b - k];
                }
            }
        }

        long of(int k, int b) {
            return ways[b * ROW + k];
        }
    }

    /** How many parts have so many boats, on the way down. */
    private static final class Flow {
        private static final long MILLION = 1000000L;

        private final Cases cases = new Cases();
        private final long[] parts = new long[MOST_BOATS + 1];

        void begin(int boats) {
            Arrays.fill(parts, 0);
            parts[boats] = ALL_PARTS;
        }

        /** What b boats leave to fewer is never asked again: so one row does, from few boats on. */
        void pass(int risk) {
            cases.reckon(risk);
            for (int b = 0; b <= MOST_BOATS; b++) {
                long whole = parts[b];
                for (int k = 0; k < b; k++) {
                    long fallen = share(whole, cases.of(k, b), b);
                    parts[k] += fallen;
                    parts[b] -= fallen;
                }
            }
        }

        /** Parts times cases outgrow a long from 5 boats on; so a million goes first there. */
        private static long share(long whole, long ways, int b) {
            if (b < 5) {
                return whole * ways / Cases.HUNDREDS[b];
            }
            long high = whole * (ways / MILLION);
            long low = whole * (ways % MILLION) / MILLION;
            return (high + low) / Cases.HUNDREDS[b - 3];
        }

        /** Parts, each as many times as it has boats. */
        long boatParts() {
            long sum = 0;
            for (int b = 1; b <= MOST_BOATS; b++) {
                sum += parts[b] * b;
            }
            return sum;
        }
    }

    /**
     * VALUE and BEST, from the last place upwards. No doing takes more than MOST_TAKEN half days: so
     * more than that for each place still ahead change nothing, and each place passed takes no more
     * than that away. Only the half days between these two bounds are reckoned.
     */
    private static final class Planner {
        private static final int ROW = Doing.MOST_TAKEN * MOST_PLACES + 1;

        private final Journey journey;
        private final Cases cases = new Cases();
        private int[] here = new int[(MOST_BOATS + 1) * ROW];
        private int[] next = new int[(MOST_BOATS + 1) * ROW];
        /** The best doing of each place from the first asked on, with all boats and half days asked. */
        private final int[] chosen = new int[MOST_PLACES];
        private int first = 0;
        private int boats = 0;
        private int halfDays = 0;

        Planner(Journey journey) {
            this.journey = journey;
        }

        /** The value of so many boats at a place (or behind the last) with so many half days left. */
        int solve(int place, int boatsThere, int halfDaysLeft) {
            first = place;
            boats = boatsThere;
            halfDays = halfDaysLeft;
            int worthOfOne = journey.boatsWorth();
            for (int b = 0; b <= boats; b++) {
                next[b * ROW] = b * worthOfOne;
            }
            for (int p = journey.river.size - 1; p >= first; p--) {
                solvePlace(p);
                int[] passed = next;
                next = here;
                here = passed;
            }
            return next[boats * ROW + mostLeft(first)];
        }

        private int mostLeft(int place) {
            return Math.min(halfDays, Doing.MOST_TAKEN * (journey.river.size - place));
        }

        private int leastLeft(int place) {
            int afterSlowest = Math.max(0, halfDays - Doing.MOST_TAKEN * (place - first));
            return Math.min(mostLeft(place), afterSlowest);
        }

        private void solvePlace(int place) {
            for (int b = 0; b <= boats; b++) {
                Arrays.fill(here, b * ROW, (b + 1) * ROW, -1);
            }
            chosen[place] = NONE;
            int runRisk = journey.runRisk(place);
            int runWets = journey.runWets(place);
            int load = journey.river.number(LOAD, 0);
            for (int doing = 0; doing < journey.doingCount; doing++) {
                if (journey.mayAt(doing, place)) {
                    cases.reckon(journey.doings[doing].risk(runRisk));
                    tryDoing(doing, place, 10 * journey.doings[doing].wets(runWets, load));
                }
            }
        }

        private void tryDoing(int doing, int place, int lostOfEach) {
            int taken = journey.doings[doing].halfDays();
            int most = mostLeft(place);
            int mostThen = mostLeft(place + 1);
            for (int h = Math.max(taken, leastLeft(place)); h <= most; h++) {
                int left = Math.min(h - taken, mostThen);
                for (int b = 0; b <= boats; b++) {
                    int gained = expected(b, left, lostOfEach);
                    if (gained > here[b * ROW + h]) {
                        here[b * ROW + h] = gained;
                        if (b == boats && h == most) {
                            chosen[place] = doing;
                        }
                    }
                }
            }
        }

        /** -1: from the next place on there is no way. */
        private int expected(int b, int left, int lostOfEach) {
            if (next[b * ROW + left] < 0) {
                return -1;
            }
            long sum = 0;
            for (int k = 0; k <= b; k++) {
                sum += cases.of(k, b) * Math.max(0, next[k * ROW + left]);
            }
            return Math.max(0, (int) (sum / Cases.HUNDREDS[b]) - b * lostOfEach);
        }
    }

    /** A row of numbers, or missing; items are kept as their sort would keep them. */
    private static final class Sheet {
        static final int MISSING = -1;
        private static final int BYTES = 0, SHORTS = 1;

        private final int[] items = new int[MOST_ITEMS];
        private int sort = MISSING;
        private int size = 0;

        void remake(int newSort, int newSize) {
            sort = newSort;
            size = newSize;
            Arrays.fill(items, 0);
        }

        boolean isMissing() {
            return sort == MISSING;
        }

        boolean has(int i) {
            return i >= 0 && i < size;
        }

        /** A run of none may also stand behind the last item. */
        boolean hasRun(int from, int n) {
            return from >= 0 && n >= 0 && n <= size && from <= size - n;
        }

        void put(int i, int v) {
            items[i] = sort == BYTES ? (byte) v : sort == SHORTS ? (short) v : v;
        }
    }
}
