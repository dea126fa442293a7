import java.util.Arrays;

/** A hill on which whoever is older lives above whoever is younger. */
public final class AgeHill {
    public static final int NONE = -1;

    private static final int CANNOT = -2;
    private static final int MAX_TAPE = 2000;
    private static final int FED_AT_ONCE = 20;
    private static final int MAX_HOUSES = 24;
    private static final int MAX_PEOPLE = 60;
    private static final int MAX_FAMILIES = 30;
    private static final int MAX_IN_FAMILY = 6;
    private static final int MAX_AGE = 99;
    private static final int MAX_MOVES = 40;
    private static final int MAX_MORNING = 99;
    private static final int MAX_MONTH = 1200;
    private static final int MAX_MONTHS_AT_ONCE = 240;
    private static final int MAX_STEP = 20;
    private static final int MAX_LANE = 9;
    private static final int MAX_GOOD = 99;
    private static final int MAX_ON_TOPS = 12;
    private static final int MAX_WAIT = 8;
    private static final int MAX_YEARS = 40;
    private static final int MAX_RULES = 6;
    private static final int SLOTS = 2;
    private static final int MONTHS_OF_YEAR = 12;

    private static final int MAX_COST = 9999;
    private static final int MAX_WORTH = 999;
    private static final int MAX_COMES = 9;
    private static final int MAX_DIES = 100;
    private static final int CANNOT_COME = 24;

    private static final int MAX_TOKENS = 400;
    private static final int MAX_NAME = 8;
    private static final int MAX_DIGITS = 4;
    private static final int MAX_BRACKETS = 6;

    private static final int SYNTAX = 1;
    private static final int ROOM = 2;
    private static final int TWICE = 3;
    private static final int WRONG = 5;

    // The kinds of tokens; the words' kinds follow the order of WORDS.
    private static final int END = 0;
    private static final int BAD = 1;
    private static final int NAME = 2;
    private static final int INT = 3;
    private static final int SEMICOLON = 4;
    private static final int EQUALS = 5;
    private static final int PLUS = 6;
    private static final int MINUS = 7;
    private static final int TIMES = 8;
    private static final int OVER = 9;
    private static final int SAME = 10;
    private static final int OTHER = 11;
    private static final int LESS = 12;
    private static final int AT_MOST = 13;
    private static final int OPEN = 14;
    private static final int CLOSE = 15;
    private static final String WORDS =
        "house left right step lane by eldest mean cost worth comes dies forgive if or and not age size lame month from to far gap loved good ";
    private static final int HOUSE = 20;
    private static final int LEFT = 21;
    private static final int RIGHT = 22;
    private static final int STEP = 23;
    private static final int LANE = 24;
    private static final int BY = 25;
    private static final int ELDEST = 26;
    private static final int MEAN = 27;
    private static final int COST = 28;
    private static final int DIES = 31;
    private static final int FORGIVE = 32;
    private static final int IF = 33;
    private static final int OR = 34;
    private static final int AND = 35;
    private static final int NOT = 36;
    private static final int FIRST_VAR = 37;
    private static final int LAST_VAR = 46;

    private static final int VARS = 10;
    private static final int VAR_AGE = 0;
    private static final int VAR_SIZE = 1;
    private static final int VAR_LAME = 2;
    private static final int VAR_MONTH = 3;
    private static final int VAR_FROM = 4;
    private static final int VAR_TO = 5;
    private static final int VAR_FAR = 6;
    private static final int VAR_GAP = 7;
    private static final int VAR_LOVED = 8;
    private static final int VAR_GOOD = 9;

    private static final int COST_FORMULA = 0;
    private static final int WORTH_FORMULA = 1;
    private static final int COMES_FORMULA = 2;
    private static final int DIES_FORMULA = 3;
    private static final int FIRST_RULE = 4;
    private static final int FORMULAS = FIRST_RULE + MAX_RULES;

    // A code below VAR_CODE is a number to push, one below SIGN_CODE a variable.
    private static final int VAR_CODE = 10000;
    private static final int SIGN_CODE = 20000;
    private static final int MAX_CODE = MAX_TOKENS + FIRST_RULE;
    // Six brackets leave two numbers waiting each, a condition two more.
    private static final int MAX_STACK = 32;

    private final byte[] tape = new byte[MAX_TAPE];
    private int taped = 0;
    private int faultPlace = NONE;
    private final Text told = new Text();
    private final Reader reader = new Reader(tape);
    private final Folk folk = new Folk();
    private final Folk aside = new Folk();
    private final Folk[] slots = new Folk[SLOTS];
    private final boolean[] filled = new boolean[SLOTS];
    private final Hill hill;
    private final Least solver;
    private final Newcomers newcomers;
    private final Tops tops;
    private final Mornings mornings;
    private final Wishes wishes;
    private final Lots lots;

    public AgeHill() {
        for (int i = 0; i < SLOTS; i++) {
            slots[i] = new Folk();
        }
        hill = new Hill(told, folk, new Reckoner(told));
        solver = new Least(hill);
        newcomers = new Newcomers(hill);
        tops = new Tops(hill);
        mornings = new Mornings(hill, aside);
        wishes = new Wishes(hill);
        lots = new Lots(hill, solver);
    }

    public int feed(int a, int b, int c, int d, int e) {
        if (taped + FED_AT_ONCE > MAX_TAPE) {
            return NONE;
        }
        tapeInt(a);
        tapeInt(b);
        tapeInt(c);
        tapeInt(d);
        tapeInt(e);
        return taped;
    }

    public int back(int n) {
        if (n < 0 || n > taped) {
            return NONE;
        }
        taped -= n;
        return taped;
    }

    public int read() {
        int fault = reader.parse(taped);
        taped = 0;
        faultPlace = fault == 0 ? NONE : reader.faultAt;
        if (fault == 0) {
            told.copyFrom(reader.fresh);
            folk.clear();
            for (int i = 0; i < SLOTS; i++) {
                filled[i] = false;
            }
        }
        return fault;
    }

    public int place() {
        return faultPlace;
    }

    public int house(int house, int what) {
        if (!isHouse(house)) {
            return NONE;
        }
        switch (what) {
            case 0: return told.side[house];
            case 1: return told.good[house];
            case 2: return orCannot(folk.dweller[house]);
            default: return NONE;
        }
    }

    public int come(int age, int tells, boolean lame) {
        if (!isAge(age) || !isAge(tells) || folk.isFull()) {
            return NONE;
        }
        return folk.addPerson(age, tells, lame ? 1 : 0);
    }

    public boolean join(int person, int family) {
        if (!folk.isPerson(person) || !folk.isFamily(family)) {
            return false;
        }
        if (folk.size[family] >= MAX_IN_FAMILY || folk.familyOf[person] == family) {
            return false;
        }
        folk.leaveFamily(person);
        folk.enterFamily(person, family);
        return true;
    }

    public boolean die(int person) {
        if (!folk.isPerson(person)) {
            return false;
        }
        folk.leaveFamily(person);
        return true;
    }

    public int person(int person, int what) {
        if (!folk.isPerson(person)) {
            return NONE;
        }
        switch (what) {
            case 0: return folk.ageOf(person, true);
            case 1: return folk.ageOf(person, false);
            case 2: return folk.lame[person];
            case 3: return folk.familyOf[person];
            default: return NONE;
        }
    }

    public int family(int family, int what) {
        if (!folk.isFamily(family)) {
            return NONE;
        }
        hill.takeToldAges();
        switch (what) {
            case 0: return folk.size[family];
            case 1: return hill.age[family];
            case 2: return hill.key[family];
            case 3: return orCannot(folk.home[family]);
            case 4: return orCannot(folk.loves[family]);
            case 5: return folk.lames[family];
            default: return NONE;
        }
    }

    public boolean live(int family, int house) {
        if (!folk.isFamily(family)) {
            return false;
        }
        if (house == NONE) {
            folk.moveOut(family);
            return true;
        }
        if (!isHouse(house) || folk.dweller[house] != NONE) {
            return false;
        }
        folk.moveTo(family, house);
        return true;
    }

    public boolean love(int family, int house) {
        if (!folk.isFamily(family) || (house != NONE && !isHouse(house))) {
            return false;
        }
        folk.loves[family] = house;
        return true;
    }

    public int months(int n) {
        if (n < 0 || n > MAX_MONTHS_AT_ONCE || folk.month + n > MAX_MONTH) {
            return NONE;
        }
        folk.month += n;
        return folk.month;
    }

    public int unlawful(int what) {
        if (what < 0 || what > 2) {
            return NONE;
        }
        boolean byMean = what == 2 ? !told.byMean : told.byMean;
        hill.takeAges(byMean, what == 1, told.step);
        hill.findPair(NONE);
        return hill.found;
    }

    public int pair(int i) {
        if (i < 0) {
            return NONE;
        }
        hill.takeToldAges();
        return hill.findPair(i);
    }

    public int row(int i) {
        hill.takeToldAges();
        hill.lineUp(NONE);
        return i < 0 || i >= hill.inRow ? NONE : hill.who[i];
    }

    public int least(int family, int what) {
        if (!mayCome(family) || what < 0 || what > 2) {
            return NONE;
        }
        if (!solver.solve(family)) {
            return CANNOT;
        }
        switch (what) {
            case 0: return solver.moved;
            case 1: return solver.costs;
            default: return carts(solver.moved);
        }
    }

    public int leastAt(int comes, int family) {
        if (!mayCome(comes) || !folk.isFamily(family)) {
            return NONE;
        }
        if (family != comes && folk.home[family] == NONE) {
            return NONE;
        }
        return solver.solve(comes) ? solver.houseOf(family) : CANNOT;
    }

    public int settle(int family) {
        if (!mayCome(family)) {
            return NONE;
        }
        if (!solver.solve(family)) {
            return CANNOT;
        }
        solver.apply();
        return solver.moved;
    }

    public int steps(int s) {
        if (s < 1 || s > MAX_STEP) {
            return NONE;
        }
        return told.hasTwoTops() ? CANNOT : newcomers.movedAnew(s);
    }

    public int mean() {
        if (told.hasTwoTops()) {
            return CANNOT;
        }
        newcomers.prepare();
        return newcomers.meanNow();
    }

    public int where(boolean least) {
        if (told.hasTwoTops() || told.houses >= MAX_HOUSES) {
            return CANNOT;
        }
        newcomers.prepare();
        newcomers.chooseNewHouse();
        return least ? newcomers.bestPlace : newcomers.bestMean;
    }

    public int gap() {
        if (told.hasTwoTops()) {
            return CANNOT;
        }
        newcomers.prepare();
        newcomers.chooseGap();
        return orCannot(newcomers.bestPlace);
    }

    public int part(int what) {
        if (what < 0 || what > 1) {
            return NONE;
        }
        if (!tops.divide()) {
            return CANNOT;
        }
        return what == 0 ? tops.notStaying : tops.leftBits;
    }

    public int move(int morning, int family, int house) {
        if (folk.moves >= MAX_MOVES || morning < 0 || morning > MAX_MORNING) {
            return NONE;
        }
        if (family < 0 || family >= folk.families || !isHouse(house)) {
            return NONE;
        }
        return folk.addMove(morning, family, house);
    }

    public int forget() {
        int forgotten = folk.moves;
        folk.moves = 0;
        return forgotten;
    }

    public int judge() {
        int verdict = mornings.tryMoves();
        mornings.undo();
        return verdict;
    }

    public int done() {
        if (mornings.tryMoves() != 0) {
            mornings.undo();
            return CANNOT;
        }
        folk.moves = 0;
        return mornings.costs;
    }

    public int worth(int family, int house) {
        if (!folk.isFamily(family) || !isHouse(house)) {
            return NONE;
        }
        hill.takeToldAges();
        return wishes.worthOf(family, house);
    }

    public int change(int what) {
        if (what < 0 || what > 1) {
            return NONE;
        }
        hill.takeToldAges();
        if (!wishes.findChange()) {
            return CANNOT;
        }
        return what == 0 ? wishes.gain : 100 * wishes.first + wishes.second;
    }

    public long waits(int family, int n) {
        if (!folk.isFamily(family) || n < 1 || n > MAX_WAIT || folk.loves[family] == NONE) {
            return NONE;
        }
        return wishes.waysToEmpty(family, n);
    }

    public int marry(int family, int other, boolean second) {
        if (family == other || !lives(family) || !lives(other)) {
            return NONE;
        }
        if (told.hasTwoTops() || folk.size[family] + folk.size[other] > MAX_IN_FAMILY) {
            return CANNOT;
        }
        aside.copyFrom(folk);
        int house = second ? folk.home[other] : folk.home[family];
        folk.merge(family, other);
        folk.moveTo(family, house);
        int moved = newcomers.movedAnew(told.step);
        folk.copyFrom(aside);
        return moved;
    }

    public int years(int seed, int n, int rule) {
        if (n < 1 || n > MAX_YEARS || rule < 0 || rule > 3) {
            return NONE;
        }
        if (folk.month + n * MONTHS_OF_YEAR > MAX_MONTH) {
            return NONE;
        }
        return told.hasTwoTops() ? CANNOT : lots.passYears(seed, n, rule);
    }

    public boolean hold(int slot) {
        if (slot < 0 || slot >= SLOTS) {
            return false;
        }
        // A text that is read empties the slots, so what they hold is always of this text.
        slots[slot].copyFrom(folk);
        filled[slot] = true;
        return true;
    }

    public boolean restore(int slot) {
        if (slot < 0 || slot >= SLOTS || !filled[slot]) {
            return false;
        }
        folk.copyFrom(slots[slot]);
        return true;
    }

    public int count(int what) {
        switch (what) {
            case 0: return told.houses;
            case 1: return folk.peopleThatAre();
            case 2: return folk.familiesThatAre();
            case 3: return folk.familiesThatLive();
            case 4: return folk.month;
            case 5: return folk.moves;
            case 6: return taped;
            case 7: return (filled[0] ? 1 : 0) + (filled[1] ? 1 : 0);
            case 8: return told.step;
            case 9: return told.lane;
            case 10: return told.rules;
            case 11: return told.byMean ? 1 : 0;
            case 12: return folk.people;
            case 13: return folk.families;
            default: return NONE;
        }
    }

    private void tapeInt(int bytes) {
        for (int shift = 24; shift >= 0; shift -= 8) {
            tape[taped] = (byte) (bytes >> shift);
            taped++;
        }
    }

    private boolean isHouse(int house) {
        return house >= 0 && house < told.houses;
    }

    private boolean lives(int family) {
        return folk.isFamily(family) && folk.home[family] != NONE;
    }

    private boolean mayCome(int family) {
        return family == NONE || (folk.isFamily(family) && folk.home[family] == NONE);
    }

    private int carts(int moved) {
        return told.lane > 0 ? (moved + told.lane - 1) / told.lane : 0;
    }

    private static boolean isAge(int age) {
        return age >= 0 && age <= MAX_AGE;
    }

    private static int held(int number, int most) {
        return Math.max(0, Math.min(most, number));
    }

    private static int orCannot(int number) {
        return number == NONE ? CANNOT : number;
    }

    /** What a text tells; its formulas are code for a stack of numbers. */
    private static final class Text {
        final int[] side = new int[MAX_HOUSES];
        final int[] good = new int[MAX_HOUSES];
        final int[] code = new int[MAX_CODE];
        final int[] start = new int[FORMULAS];
        final int[] end = new int[FORMULAS];
        int houses;
        int step;
        int lane;
        int rules;
        int coded;
        boolean byMean;

        Text() {
            clear();
        }

        void clear() {
            houses = 0;
            step = 1;
            lane = 3;
            rules = 0;
            coded = 0;
            byMean = false;
            tellAtFirst(COST_FORMULA, 1);
            tellAtFirst(WORTH_FORMULA, VAR_CODE + VAR_GOOD);
            tellAtFirst(COMES_FORMULA, 1);
            tellAtFirst(DIES_FORMULA, 0);
        }

        private void tellAtFirst(int formula, int push) {
            start[formula] = coded;
            write(push);
            end[formula] = coded;
        }

        void write(int operation) {
            if (coded < MAX_CODE) {
                code[coded] = operation;
                coded++;
            }
        }

        void copyFrom(Text from) {
            System.arraycopy(from.side, 0, side, 0, MAX_HOUSES);
            System.arraycopy(from.good, 0, good, 0, MAX_HOUSES);
            System.arraycopy(from.code, 0, code, 0, MAX_CODE);
            System.arraycopy(from.start, 0, start, 0, FORMULAS);
            System.arraycopy(from.end, 0, end, 0, FORMULAS);
            houses = from.houses;
            step = from.step;
            lane = from.lane;
            rules = from.rules;
            coded = from.coded;
            byMean = from.byMean;
        }

        boolean hasTwoTops() {
            int seen = 0;
            for (int h = 0; h < houses; h++) {
                seen |= side[h];
            }
            return seen == 3;
        }

        boolean areInOneRow(int house, int other) {
            return (side[house] | side[other]) != 3;
        }
    }

    /** Reads the tape: cuts it into tokens, then writes what they tell into a fresh text. */
    private static final class Reader {
        final byte[] tape;
        final Text fresh = new Text();
        final int[] kind = new int[MAX_TOKENS + 2];
        final int[] value = new int[MAX_TOKENS + 2];
        final int[] at = new int[MAX_TOKENS + 2];
        final int[] nameToken = new int[MAX_HOUSES];
        final int[] waiting = new int[MAX_STACK];
        int hanging;
        int length;
        int next;
        int fault;
        int faultAt;
        int lateFault;
        int lateAt;

        Reader(byte[] tape) {
            this.tape = tape;
        }

        /** The number of the fault, 0 without; fresh holds the text then. */
        int parse(int bytes) {
            length = bytes;
            next = 0;
            fault = 0;
            lateFault = 0;
            fresh.clear();
            scan();
            boolean going = true;
            for (int i = 0; i <= MAX_TOKENS && going; i++) {
                going = kind[next] != END && readTell();
            }
            if (fault == 0 && lateFault != 0) {
                fault = lateFault;
                faultAt = lateAt;
            }
            return fault;
        }

        private void scan() {
            int place = 0;
            boolean going = true;
            for (int token = 0; token <= MAX_TOKENS && going; token++) {
                place = afterBlanks(place);
                at[token] = place;
                place += scanToken(token, place);
                going = kind[token] != END && kind[token] != BAD;
            }
        }

        private int byteAt(int place) {
            return place < length ? tape[place] & 255 : 0;
        }

        private int afterBlanks(int place) {
            for (int i = place; i < length; i++) {
                int sign = byteAt(i);
                if (sign != ' ' && sign != 9 && sign != 10 && sign != 13) {
                    return i;
                }
            }
            return length;
        }

        /** How many bytes the token has. */
        private int scanToken(int token, int place) {
            int sign = byteAt(place);
            value[token] = 0;
            if (place >= length) {
                kind[token] = END;
                return 0;
            }
            if (sign >= 'a' && sign <= 'z') {
                return scanWord(token, place);
            }
            if (sign >= '0' && sign <= '9') {
                return scanNumber(token, place);
            }
            boolean doubled = byteAt(place + 1) == '=' && (sign == '=' || sign == '!' || sign == '<');
            kind[token] = doubled ? doubledKind(sign) : signKind(sign);
            return doubled ? 2 : 1;
        }

        private int runLength(int place, int lowest, int highest) {
            int end = place;
            while (end < length && byteAt(end) >= lowest && byteAt(end) <= highest) {
                end++;
            }
            return end - place;
        }

        private int scanWord(int token, int place) {
            int letters = runLength(place, 'a', 'z');
            kind[token] = letters > MAX_NAME ? BAD : wordKind(place, letters);
            value[token] = letters;
            return letters;
        }

        private int scanNumber(int token, int place) {
            int digits = runLength(place, '0', '9');
            kind[token] = digits > MAX_DIGITS ? BAD : INT;
            for (int i = 0; i < digits && digits <= MAX_DIGITS; i++) {
                value[token] = value[token] * 10 + byteAt(place + i) - '0';
            }
            return digits;
        }

        private int wordKind(int place, int letters) {
            int word = 0;
            int begin = 0;
            for (int i = 0; i < WORDS.length(); i++) {
                if (WORDS.charAt(i) == ' ') {
                    if (i - begin == letters && isWordAt(begin, place, letters)) {
                        return HOUSE + word;
                    }
                    word++;
                    begin = i + 1;
                }
            }
            return NAME;
        }

        private boolean isWordAt(int begin, int place, int letters) {
            for (int i = 0; i < letters; i++) {
                if (WORDS.charAt(begin + i) != byteAt(place + i)) {
                    return false;
                }
            }
            return true;
        }

        private static int doubledKind(int sign) {
            return sign == '=' ? SAME : sign == '!' ? OTHER : AT_MOST;
        }

        private static int signKind(int sign) {
            switch (sign) {
                case ';': return SEMICOLON;
                case '=': return EQUALS;
                case '+': return PLUS;
                case '-': return MINUS;
                case '*': return TIMES;
                case '/': return OVER;
                case '<': return LESS;
                case '(': return OPEN;
                case ')': return CLOSE;
                default: return BAD;
            }
        }

        private boolean fail(int number) {
            fault = number;
            faultAt = at[next];
            return false;
        }

        /** Goes past a token that fits; only here can it be one too many. */
        private boolean pass() {
            if (next >= MAX_TOKENS) {
                return fail(ROOM);
            }
            next++;
            return true;
        }

        private boolean want(int wanted) {
            return kind[next] == wanted ? pass() : fail(SYNTAX);
        }

        /** Faults 3 and 5 count only if the whole text has none of the others. */
        private void noteLate(int number, int place) {
            if (lateFault == 0) {
                lateFault = number;
                lateAt = place;
            }
        }

        private boolean wantNumber(int lowest, int highest) {
            if (kind[next] != INT) {
                return fail(SYNTAX);
            }
            if (value[next] < lowest || value[next] > highest) {
                noteLate(WRONG, at[next]);
            }
            return pass();
        }

        private boolean readTell() {
            int tell = kind[next];
            if (tell == HOUSE) {
                return readHouse();
            }
            if (tell == STEP || tell == LANE) {
                return readSetting(tell);
            }
            if (tell == BY) {
                return readBy();
            }
            if (tell >= COST && tell <= DIES) {
                return readFormula(tell - COST);
            }
            return tell == FORGIVE ? readRule() : fail(SYNTAX);
        }

        private boolean readHouse() {
            if (fresh.houses >= MAX_HOUSES) {
                return fail(ROOM);
            }
            int name = next + 1;
            if (!pass() || !want(NAME)) {
                return false;
            }
            noteName(name);
            int side = kind[next] == LEFT ? 1 : kind[next] == RIGHT ? 2 : 0;
            if (side != 0 && !pass()) {
                return false;
            }
            fresh.side[fresh.houses] = side;
            fresh.good[fresh.houses] = value[next];
            fresh.houses++;
            return wantNumber(0, MAX_GOOD) && want(SEMICOLON);
        }

        private void noteName(int name) {
            for (int h = 0; h < fresh.houses; h++) {
                if (isSameName(nameToken[h], name)) {
                    noteLate(TWICE, at[name]);
                }
            }
            nameToken[fresh.houses] = name;
        }

        private boolean isSameName(int name, int other) {
            if (value[name] != value[other]) {
                return false;
            }
            for (int i = 0; i < value[name]; i++) {
                if (byteAt(at[name] + i) != byteAt(at[other] + i)) {
                    return false;
                }
            }
            return true;
        }

        private boolean readSetting(int setting) {
            if (!pass()) {
                return false;
            }
            if (setting == STEP) {
                fresh.step = value[next];
                return wantNumber(1, MAX_STEP) && want(SEMICOLON);
            }
            fresh.lane = value[next];
            return wantNumber(1, MAX_LANE) && want(SEMICOLON);
        }

        private boolean readBy() {
            if (!pass()) {
                return false;
            }
            if (kind[next] != ELDEST && kind[next] != MEAN) {
                return fail(SYNTAX);
            }
            fresh.byMean = kind[next] == MEAN;
            return pass() && want(SEMICOLON);
        }

        private boolean readFormula(int formula) {
            fresh.start[formula] = fresh.coded;
            if (!pass() || !want(EQUALS) || !readExpression()) {
                return false;
            }
            fresh.end[formula] = fresh.coded;
            return want(SEMICOLON);
        }

        private boolean readRule() {
            if (fresh.rules >= MAX_RULES) {
                return fail(ROOM);
            }
            int rule = FIRST_RULE + fresh.rules;
            fresh.start[rule] = fresh.coded;
            if (!pass() || !want(IF)) {
                return false;
            }
            boolean afterAnd = false;
            boolean afterOr = false;
            for (int i = 0; i <= MAX_TOKENS; i++) {
                if (!readLiteral(afterAnd)) {
                    return false;
                }
                afterAnd = kind[next] == AND;
                if (!afterAnd) {
                    if (afterOr) {
                        fresh.write(SIGN_CODE + OR);
                    }
                    afterOr = true;
                    if (kind[next] != OR) {
                        break;
                    }
                }
                if (!pass()) {
                    return false;
                }
            }
            fresh.end[rule] = fresh.coded;
            fresh.rules++;
            return want(SEMICOLON);
        }

        private boolean readLiteral(boolean afterAnd) {
            boolean turned = false;
            for (int i = 0; i <= MAX_TOKENS && kind[next] == NOT; i++) {
                turned = !turned;
                if (!pass()) {
                    return false;
                }
            }
            if (!readExpression()) {
                return false;
            }
            int compares = kind[next];
            if (compares < SAME || compares > AT_MOST) {
                return fail(SYNTAX);
            }
            if (!pass() || !readExpression()) {
                return false;
            }
            fresh.write(SIGN_CODE + compares);
            if (turned) {
                fresh.write(SIGN_CODE + NOT);
            }
            if (afterAnd) {
                fresh.write(SIGN_CODE + AND);
            }
            return true;
        }

        /** Signs wait until what binds more tightly behind them is written. */
        private boolean readExpression() {
            hanging = 0;
            int brackets = 0;
            boolean wantsUnit = true;
            for (int i = 0; i <= MAX_TOKENS; i++) {
                int token = kind[next];
                if (wantsUnit && token == OPEN) {
                    if (brackets >= MAX_BRACKETS) {
                        return fail(ROOM);
                    }
                    brackets++;
                    hang(OPEN);
                } else if (wantsUnit) {
                    if (!writeUnit(token)) {
                        return fail(SYNTAX);
                    }
                    wantsUnit = false;
                } else if (token >= PLUS && token <= OVER) {
                    writeWaiting(strength(token));
                    hang(token);
                    wantsUnit = true;
                } else if (brackets == 0) {
                    writeWaiting(1);
                    return true;
                } else if (token == CLOSE) {
                    writeWaiting(1);
                    hanging--;
                    brackets--;
                } else {
                    return fail(SYNTAX);
                }
                if (!pass()) {
                    return false;
                }
            }
            return fail(SYNTAX);
        }

        private boolean writeUnit(int token) {
            if (token == INT) {
                fresh.write(value[next]);
                return true;
            }
            if (token >= FIRST_VAR && token <= LAST_VAR) {
                fresh.write(VAR_CODE + token - FIRST_VAR);
                return true;
            }
            return false;
        }

        private void hang(int sign) {
            if (hanging < MAX_STACK) {
                waiting[hanging] = sign;
                hanging++;
            }
        }

        private void writeWaiting(int least) {
            while (hanging > 0 && strength(waiting[hanging - 1]) >= least) {
                hanging--;
                fresh.write(SIGN_CODE + waiting[hanging]);
            }
        }

        private static int strength(int sign) {
            return sign == TIMES || sign == OVER ? 2 : sign == OPEN ? 0 : 1;
        }
    }

    /** Says what a formula of the text comes to for the variables set. */
    private static final class Reckoner {
        final Text text;
        final int[] vars = new int[VARS];
        final int[] stack = new int[MAX_STACK];
        boolean dividedByZero;

        Reckoner(Text text) {
            this.text = text;
        }

        /** What a formula comes to as a whole; of a rule 1 if it holds, else 0. */
        int evaluate(int formula) {
            int depth = 0;
            dividedByZero = false;
            stack[0] = 0;
            for (int i = text.start[formula]; i < text.end[formula]; i++) {
                int operation = text.code[i];
                if (operation < SIGN_CODE) {
                    if (depth < MAX_STACK) {
                        stack[depth] = operation < VAR_CODE ? operation : vars[operation - VAR_CODE];
                        depth++;
                    }
                } else if (operation == SIGN_CODE + NOT) {
                    if (depth > 0) {
                        stack[depth - 1] = 1 - stack[depth - 1];
                    }
                } else if (depth > 1) {
                    depth--;
                    int sign = operation - SIGN_CODE;
                    int left = stack[depth - 1];
                    int right = stack[depth];
                    stack[depth - 1] = sign <= OVER ? reckon(sign, left, right) : decide(sign, left, right) ? 1 : 0;
                }
            }
            return dividedByZero ? 0 : stack[0];
        }

        private int reckon(int sign, int a, int b) {
            switch (sign) {
                case PLUS: return a + b;
                case MINUS: return a - b;
                case TIMES: return a * b;
                default: break;
            }
            if (b == 0) {
                dividedByZero = true;
                return 0;
            }
            return a / b;
        }

        private boolean decide(int sign, int a, int b) {
            // A division by zero spoils the one literal that it stands in, no other one.
            boolean spoilt = dividedByZero;
            dividedByZero = false;
            switch (sign) {
                case AND: return (a & b) != 0;
                case OR: return (a | b) != 0;
                case SAME: return !spoilt && a == b;
                case OTHER: return !spoilt && a != b;
                case LESS: return !spoilt && a < b;
                default: return !spoilt && a <= b;
            }
        }
    }

    /** The people, the families, where they live, and the moves told: all that a slot holds. */
    private static final class Folk {
        final int[] cameAt = new int[MAX_PEOPLE];
        final int[] trueAge = new int[MAX_PEOPLE];
        final int[] toldAge = new int[MAX_PEOPLE];
        final int[] lame = new int[MAX_PEOPLE];
        final int[] familyOf = new int[MAX_PEOPLE];
        final int[] size = new int[MAX_FAMILIES];
        final int[] lames = new int[MAX_FAMILIES];
        final int[] home = new int[MAX_FAMILIES];
        final int[] loves = new int[MAX_FAMILIES];
        final int[] dweller = new int[MAX_HOUSES];
        final int[] morning = new int[MAX_MOVES];
        final int[] mover = new int[MAX_MOVES];
        final int[] goal = new int[MAX_MOVES];
        int people;
        int families;
        int month;
        int moves;

        Folk() {
            clear();
        }

        void clear() {
            people = 0;
            families = 0;
            month = 0;
            moves = 0;
            emptyHouses();
        }

        void emptyHouses() {
            Arrays.fill(dweller, NONE);
        }

        void copyFrom(Folk from) {
            people = from.people;
            families = from.families;
            month = from.month;
            moves = from.moves;
            System.arraycopy(from.cameAt, 0, cameAt, 0, people);
            System.arraycopy(from.trueAge, 0, trueAge, 0, people);
            System.arraycopy(from.toldAge, 0, toldAge, 0, people);
            System.arraycopy(from.lame, 0, lame, 0, people);
            System.arraycopy(from.familyOf, 0, familyOf, 0, people);
            System.arraycopy(from.size, 0, size, 0, families);
            System.arraycopy(from.lames, 0, lames, 0, families);
            System.arraycopy(from.home, 0, home, 0, families);
            System.arraycopy(from.loves, 0, loves, 0, families);
            System.arraycopy(from.dweller, 0, dweller, 0, MAX_HOUSES);
            System.arraycopy(from.morning, 0, morning, 0, moves);
            System.arraycopy(from.mover, 0, mover, 0, moves);
            System.arraycopy(from.goal, 0, goal, 0, moves);
        }

        boolean isPerson(int person) {
            return person >= 0 && person < people && familyOf[person] != NONE;
        }

        boolean isFamily(int family) {
            return family >= 0 && family < families && size[family] > 0;
        }

        boolean isFull() {
            return people >= MAX_PEOPLE || families >= MAX_FAMILIES;
        }

        int peopleThatAre() {
            int are = 0;
            for (int f = 0; f < families; f++) {
                are += size[f];
            }
            return are;
        }

        int familiesThatAre() {
            int are = 0;
            for (int f = 0; f < families; f++) {
                are += size[f] > 0 ? 1 : 0;
            }
            return are;
        }

        int familiesThatLive() {
            int live = 0;
            for (int h = 0; h < MAX_HOUSES; h++) {
                live += dweller[h] != NONE ? 1 : 0;
            }
            return live;
        }

        int ageOf(int person, boolean truly) {
            int atFirst = truly ? trueAge[person] : toldAge[person];
            return atFirst + (month - cameAt[person]) / MONTHS_OF_YEAR;
        }

        /** Nobody is added when it is full: who calls has looked. */
        int addPerson(int age, int tells, int isLame) {
            if (isFull()) {
                return NONE;
            }
            int person = people;
            int family = families;
            people++;
            families++;
            cameAt[person] = month;
            trueAge[person] = age;
            toldAge[person] = tells;
            lame[person] = isLame;
            size[family] = 0;
            lames[family] = 0;
            home[family] = NONE;
            loves[family] = NONE;
            enterFamily(person, family);
            return person;
        }

        void enterFamily(int person, int family) {
            familyOf[person] = family;
            size[family]++;
            lames[family] += lame[person];
        }

        void leaveFamily(int person) {
            int family = familyOf[person];
            familyOf[person] = NONE;
            size[family]--;
            lames[family] -= lame[person];
            if (size[family] == 0) {
                moveOut(family);
            }
        }

        void moveOut(int family) {
            if (home[family] != NONE) {
                dweller[home[family]] = NONE;
                home[family] = NONE;
            }
        }

        void moveTo(int family, int house) {
            moveOut(family);
            home[family] = house;
            dweller[house] = family;
        }

        void merge(int family, int other) {
            for (int p = 0; p < people; p++) {
                if (familyOf[p] == other) {
                    leaveFamily(p);
                    enterFamily(p, family);
                }
            }
        }

        int firstOf(int family) {
            for (int p = 0; p < people; p++) {
                if (familyOf[p] == family) {
                    return p;
                }
            }
            return NONE;
        }

        int addMove(int onMorning, int family, int house) {
            int number = moves;
            morning[number] = onMorning;
            mover[number] = family;
            goal[number] = house;
            moves++;
            return number;
        }
    }

    /** The folk as the text sees them: ages and keys, the row, what is unlawful, what moves cost. */
    private static final class Hill {
        final Text text;
        final Folk folk;
        final Reckoner sums;
        final int[] age = new int[MAX_FAMILIES];
        final int[] key = new int[MAX_FAMILIES];
        final int[] who = new int[MAX_HOUSES + 1];
        int inRow;
        int found;

        Hill(Text text, Folk folk, Reckoner sums) {
            this.text = text;
            this.folk = folk;
            this.sums = sums;
        }

        void takeToldAges() {
            takeAges(text.byMean, false, text.step);
        }

        void takeAges(boolean byMean, boolean truly, int step) {
            Arrays.fill(age, 0);
            for (int p = 0; p < folk.people; p++) {
                int family = folk.familyOf[p];
                if (family != NONE) {
                    int years = folk.ageOf(p, truly);
                    age[family] = byMean ? age[family] + years : Math.max(age[family], years);
                }
            }
            for (int f = 0; f < folk.families; f++) {
                if (byMean && folk.size[f] > 0) {
                    age[f] /= folk.size[f];
                }
                key[f] = step > 0 ? age[f] / step : 0;
            }
        }

        void lineUp(int comer) {
            inRow = 0;
            for (int h = 0; h < text.houses; h++) {
                if (folk.dweller[h] != NONE) {
                    stand(folk.dweller[h]);
                }
            }
            if (comer != NONE) {
                stand(comer);
            }
        }

        private void stand(int family) {
            int place = inRow;
            for (; place > 0 && key[who[place - 1]] > key[family]; place--) {
                who[place] = who[place - 1];
            }
            who[place] = family;
            inRow++;
        }

        /** The i-th unlawful two, NONE if there are not so many; found tells how many went ahead. */
        int findPair(int i) {
            found = 0;
            for (int low = 0; low < text.houses; low++) {
                for (int high = low + 1; high < text.houses; high++) {
                    if (isUnlawful(low, high)) {
                        if (found == i) {
                            return 100 * low + high;
                        }
                        found++;
                    }
                }
            }
            return NONE;
        }

        private boolean isUnlawful(int low, int high) {
            int below = folk.dweller[low];
            int above = folk.dweller[high];
            if (below == NONE || above == NONE || key[below] <= key[above]) {
                return false;
            }
            return text.areInOneRow(low, high) && !isForgiven(below, key[below] - key[above]);
        }

        private boolean isForgiven(int family, int keyGap) {
            setFamily(family);
            sums.vars[VAR_GAP] = keyGap;
            for (int r = 0; r < text.rules; r++) {
                if (sums.evaluate(FIRST_RULE + r) != 0) {
                    return true;
                }
            }
            return false;
        }

        void setFamily(int family) {
            Arrays.fill(sums.vars, 0);
            sums.vars[VAR_AGE] = age[family];
            sums.vars[VAR_SIZE] = folk.size[family];
            sums.vars[VAR_LAME] = folk.lames[family];
            sums.vars[VAR_MONTH] = folk.month % MONTHS_OF_YEAR;
        }

        /** What it costs a family to go to a house from where it lives, or from nowhere. */
        int costTo(int family, int house) {
            int from = folk.home[family];
            setFamily(family);
            sums.vars[VAR_FROM] = from;
            sums.vars[VAR_TO] = house;
            sums.vars[VAR_FAR] = from == NONE ? 0 : Math.abs(from - house);
            return held(sums.evaluate(COST_FORMULA), MAX_COST);
        }

        int dyingWays(int toldAge, int isLame) {
            Arrays.fill(sums.vars, 0);
            sums.vars[VAR_AGE] = toldAge;
            sums.vars[VAR_LAME] = isLame;
            return held(sums.evaluate(DIES_FORMULA), MAX_DIES);
        }

        int comingWays(int toldAge) {
            Arrays.fill(sums.vars, 0);
            sums.vars[VAR_AGE] = toldAge;
            return held(sums.evaluate(COMES_FORMULA), MAX_COMES);
        }
    }

    /** LEAST: the row put to houses with the fewest moved, at the least cost. */
    private static final class Least {
        // More than all costs of a row together, so that a move outweighs them.
        private static final int ONE_MOVE = 1 << 18;

        final Hill hill;
        final int[] best = new int[MAX_HOUSES + 1];
        // The i-th of n can stand i to i + H - n houses up: n * (H - n + 1) places, 156 at most.
        final int[] pick = new int[MAX_HOUSES * MAX_HOUSES / 4 + MAX_HOUSES / 2];
        final int[] goal = new int[MAX_HOUSES];
        int moved;
        int costs;

        Least(Hill hill) {
            this.hill = hill;
        }

        /** False if it can't be. */
        boolean solve(int comer) {
            hill.takeToldAges();
            hill.lineUp(comer);
            int slack = hill.text.houses - hill.inRow;
            if (slack < 0 || hill.text.hasTwoTops()) {
                return false;
            }
            Arrays.fill(best, 0);
            for (int i = hill.inRow - 1; i >= 0; i--) {
                choose(i, slack);
            }
            moved = best[0] / ONE_MOVE;
            costs = best[0] % ONE_MOVE;
            int up = 0;
            for (int i = 0; i < hill.inRow; i++) {
                up = pick[i * (slack + 1) + up];
                goal[i] = i + up;
            }
            return true;
        }

        /** best[up]: the i-th and all behind it, at least so many houses above the lowest they can have. */
        private void choose(int i, int slack) {
            int line = i * (slack + 1);
            int family = hill.who[i];
            int home = hill.folk.home[family];
            for (int up = slack; up >= 0; up--) {
                int here = best[up];
                if (home != i + up) {
                    here += hill.costTo(family, i + up) + (home == NONE ? 0 : ONE_MOVE);
                }
                boolean higher = up < slack && best[up + 1] < here;
                best[up] = higher ? best[up + 1] : here;
                pick[line + up] = higher ? pick[line + up + 1] : up;
            }
        }

        int houseOf(int family) {
            for (int i = 0; i < hill.inRow; i++) {
                if (hill.who[i] == family) {
                    return goal[i];
                }
            }
            return NONE;
        }

        void apply() {
            hill.folk.emptyHouses();
            for (int i = 0; i < hill.inRow; i++) {
                hill.folk.home[hill.who[i]] = goal[i];
                hill.folk.dweller[goal[i]] = hill.who[i];
            }
        }
    }

    /** How many move for whoever may come, with a house more or less; costs do not matter here. */
    private static final class Newcomers {
        final Hill hill;
        final int[] weight = new int[MAX_HOUSES + 1];
        final int[] spot = new int[MAX_HOUSES];
        final int[] longest = new int[MAX_HOUSES + 1];
        int bestPlace;
        int bestMean;

        Newcomers(Hill hill) {
            this.hill = hill;
        }

        /** How many move all anew if the step were this one. */
        int movedAnew(int step) {
            hill.takeAges(hill.text.byMean, false, step);
            hill.lineUp(NONE);
            placeSpots(NONE, 0);
            return movedWith(hill.inRow, 0, hill.text.houses - hill.inRow);
        }

        /** Weighs each place in the row by how many ways somebody comes who stands there. */
        void prepare() {
            hill.takeToldAges();
            hill.lineUp(NONE);
            Arrays.fill(weight, 0);
            int place = 0;
            int step = Math.max(1, hill.text.step);
            for (int a = 0; a <= MAX_AGE; a++) {
                while (place < hill.inRow && hill.key[hill.who[place]] <= a / step) {
                    place++;
                }
                weight[place] += hill.comingWays(a);
            }
        }

        int meanNow() {
            placeSpots(NONE, 0);
            return meanWith(hill.text.houses);
        }

        void chooseNewHouse() {
            bestPlace = NONE;
            for (int p = 0; p <= hill.text.houses; p++) {
                placeSpots(p, 1);
                int mean = meanWith(hill.text.houses + 1);
                if (bestPlace == NONE || mean < bestMean) {
                    bestPlace = p;
                    bestMean = mean;
                }
            }
        }

        /** bestPlace stays NONE if no house is empty. */
        void chooseGap() {
            bestPlace = NONE;
            for (int h = 0; h < hill.text.houses; h++) {
                if (hill.folk.dweller[h] == NONE) {
                    placeSpots(h, -1);
                    int mean = meanWith(hill.text.houses - 1);
                    if (bestPlace == NONE || mean > bestMean) {
                        bestPlace = h;
                        bestMean = mean;
                    }
                }
            }
        }

        /** Where the row lives if the houses from one on are moved up or down. */
        private void placeSpots(int from, int by) {
            for (int i = 0; i < hill.inRow; i++) {
                int home = hill.folk.home[hill.who[i]];
                spot[i] = home >= from ? home + by : home;
            }
        }

        private int meanWith(int houses) {
            int slack = houses - hill.inRow - 1;
            int sum = 0;
            for (int place = 0; place <= hill.inRow; place++) {
                if (weight[place] > 0) {
                    sum += weight[place] * (slack < 0 ? CANNOT_COME : movedWith(place, 1, slack));
                }
            }
            return sum;
        }

        /**
         * Those from a place on stand one further up the row if somebody comes there. All of a set can
         * stay just if how far each lives above the lowest house it can have never falls along the row.
         */
        private int movedWith(int comerPlace, int comers, int slack) {
            int stay = 0;
            Arrays.fill(longest, 0);
            for (int i = 0; i < hill.inRow; i++) {
                int up = spot[i] - (i < comerPlace ? i : i + comers);
                if (up >= 0 && up <= slack) {
                    int most = 0;
                    for (int below = 0; below <= up; below++) {
                        most = Math.max(most, longest[below]);
                    }
                    longest[up] = most + 1;
                    stay = Math.max(stay, most + 1);
                }
            }
            return hill.inRow - stay;
        }
    }

    /** PART: who on the two tops goes to which of them. */
    private static final class Tops {
        private static final int ONE_MOVE = 1 << 16;
        private static final int ONE_LEFT = 1 << MAX_ON_TOPS;
        private static final int NEVER = 1 << 30;
        private static final int TABLE = (MAX_HOUSES / 2 + 1) * (MAX_HOUSES / 2 + 1);

        final Hill hill;
        final int[] order = new int[MAX_ON_TOPS];
        // Of each house: how many of its own top are below it; how many families on tops are.
        final int[] level = new int[MAX_HOUSES];
        final int[] rank = new int[MAX_HOUSES];
        final int[] total = new int[3];
        int members;
        int[] table = new int[TABLE];
        int[] nextTable = new int[TABLE];
        int notStaying;
        int leftBits;

        Tops(Hill hill) {
            this.hill = hill;
        }

        /** False if there are too many. */
        boolean divide() {
            hill.takeToldAges();
            if (!lineUpTops()) {
                return false;
            }
            Arrays.fill(table, NEVER);
            table[0] = 0;
            for (int i = 0; i < members; i++) {
                assign(hill.folk.home[order[i]]);
            }
            int least = NEVER;
            for (int state = 0; state < (total[1] + 1) * (total[2] + 1); state++) {
                least = Math.min(least, table[state]);
            }
            notStaying = least / ONE_MOVE;
            leftBits = least % ONE_LEFT;
            return least < NEVER;
        }

        private boolean lineUpTops() {
            members = 0;
            Arrays.fill(total, 0);
            for (int h = 0; h < hill.text.houses; h++) {
                int side = hill.text.side[h];
                level[h] = total[side];
                total[side]++;
                rank[h] = members;
                if (side != 0 && hill.folk.dweller[h] != NONE) {
                    if (members >= MAX_ON_TOPS) {
                        return false;
                    }
                    stand(hill.folk.dweller[h]);
                }
            }
            return true;
        }

        private void stand(int family) {
            int place = members;
            for (; place > 0 && hill.key[order[place - 1]] > hill.key[family]; place--) {
                order[place] = order[place - 1];
            }
            order[place] = family;
            members++;
        }

        /** A state tells the lowest house still free on each top, as nobody goes below one put earlier. */
        private void assign(int home) {
            int width = total[2] + 1;
            int toLeft = ONE_LEFT + (1 << rank[home]);
            Arrays.fill(nextTable, NEVER);
            for (int left = 0; left <= total[1]; left++) {
                for (int right = 0; right < width; right++) {
                    int so = table[left * width + right];
                    if (so < NEVER) {
                        if (left < total[1]) {
                            reach((left + 1) * width + right, so + toLeft + ONE_MOVE);
                        }
                        if (right < total[2]) {
                            reach(left * width + right + 1, so + ONE_MOVE);
                        }
                        if (hill.text.side[home] == 1 && level[home] >= left) {
                            reach((level[home] + 1) * width + right, so + toLeft);
                        }
                        if (hill.text.side[home] == 2 && level[home] >= right) {
                            reach(left * width + level[home] + 1, so);
                        }
                    }
                }
            }
            int[] spent = table;
            table = nextTable;
            nextTable = spent;
        }

        private void reach(int state, int price) {
            nextTable[state] = Math.min(nextTable[state], price);
        }
    }

    /** The moves told, tried morning by morning. */
    private static final class Mornings {
        final Hill hill;
        final Folk before;
        final int[] order = new int[MAX_MOVES];
        int costs;

        Mornings(Hill hill, Folk before) {
            this.hill = hill;
            this.before = before;
        }

        void undo() {
            hill.folk.copyFrom(before);
        }

        /** Makes the moves up to the first wrong one: 10 * it + its reason, 0 if none is. */
        int tryMoves() {
            Folk folk = hill.folk;
            before.copyFrom(folk);
            hill.takeToldAges();
            sortMoves();
            costs = 0;
            int onMorning = 0;
            for (int i = 0; i < folk.moves; i++) {
                int number = order[i];
                int reason = reasonAgainst(number, onMorning);
                if (reason != 0) {
                    return 10 * number + reason;
                }
                costs += hill.costTo(folk.mover[number], folk.goal[number]);
                folk.moveTo(folk.mover[number], folk.goal[number]);
                onMorning++;
                if (i + 1 == folk.moves || folk.morning[order[i + 1]] != folk.morning[number]) {
                    onMorning = 0;
                    if (hill.findPair(0) != NONE) {
                        return 10 * number + 4;
                    }
                }
            }
            return 0;
        }

        private void sortMoves() {
            int[] morning = hill.folk.morning;
            for (int i = 0; i < hill.folk.moves; i++) {
                int place = i;
                for (; place > 0 && morning[order[place - 1]] > morning[i]; place--) {
                    order[place] = order[place - 1];
                }
                order[place] = i;
            }
        }

        private int reasonAgainst(int number, int onMorning) {
            int family = hill.folk.mover[number];
            if (!hill.folk.isFamily(family) || hill.folk.home[family] == NONE) {
                return 1;
            }
            if (onMorning >= hill.text.lane) {
                return 2;
            }
            return hill.folk.dweller[hill.folk.goal[number]] != NONE ? 3 : 0;
        }
    }

    /** What houses are worth to whom, who would change, and how long who loves a house waits. */
    private static final class Wishes {
        final Hill hill;
        int gain;
        int first;
        int second;

        Wishes(Hill hill) {
            this.hill = hill;
        }

        int worthOf(int family, int house) {
            hill.setFamily(family);
            hill.sums.vars[VAR_GOOD] = hill.text.good[house];
            hill.sums.vars[VAR_TO] = house;
            hill.sums.vars[VAR_LOVED] = hill.folk.loves[family] == house ? 1 : 0;
            return held(hill.sums.evaluate(WORTH_FORMULA), MAX_WORTH);
        }

        /** False if no two gain by it. */
        boolean findChange() {
            gain = 0;
            for (int f = 0; f < hill.folk.families; f++) {
                for (int g = f + 1; g < hill.folk.families; g++) {
                    if (mayChange(f, g)) {
                        int more = gainOf(f, g);
                        if (more > gain) {
                            gain = more;
                            first = f;
                            second = g;
                        }
                    }
                }
            }
            return gain > 0;
        }

        private boolean mayChange(int f, int g) {
            Folk folk = hill.folk;
            return folk.isFamily(f) && folk.isFamily(g) && hill.key[f] == hill.key[g]
                && folk.home[f] != NONE && folk.home[g] != NONE;
        }

        private int gainOf(int f, int g) {
            int house = hill.folk.home[f];
            int other = hill.folk.home[g];
            return worthOf(f, other) + worthOf(g, house) - worthOf(f, house) - worthOf(g, other);
        }

        long waysToEmpty(int family, int n) {
            Folk folk = hill.folk;
            int dweller = folk.dweller[folk.loves[family]];
            if (dweller == NONE || dweller == family) {
                return CANNOT;
            }
            int person = folk.firstOf(dweller);
            if (person == NONE) {
                return CANNOT;
            }
            long ways = 1;
            long survives = 1;
            for (int year = 0; year < n; year++) {
                ways *= 100;
                survives *= 100 - hill.dyingWays(folk.ageOf(person, false) + year, folk.lame[person]);
            }
            return ways - survives;
        }
    }

    /** Years by lots. */
    private static final class Lots {
        private static final int BEST = 0;
        private static final int SORT = 2;
        private static final int LATE = 3;

        final Hill hill;
        final Least solver;
        int seed;
        int moved;

        Lots(Hill hill, Least solver) {
            this.hill = hill;
            this.solver = solver;
        }

        int passYears(int withSeed, int n, int rule) {
            seed = withSeed;
            moved = 0;
            for (int i = 0; i < n; i++) {
                hill.folk.month += MONTHS_OF_YEAR;
                drawDeaths(200 * i);
                int comer = drawComer(200 * i);
                if (rule == BEST) {
                    if (comer != NONE) {
                        doLeast(comer);
                    }
                    doLeast(NONE);
                } else if (rule == SORT) {
                    doSort(comer);
                } else {
                    putNear(comer);
                    if (rule == LATE && isSomethingUnlawful()) {
                        doLeast(NONE);
                    }
                }
            }
            return moved;
        }

        private boolean isSomethingUnlawful() {
            hill.takeToldAges();
            return hill.findPair(0) != NONE;
        }

        private int draw(int n, int which) {
            int h = mix(mix(seed, 17), which);
            return n > 0 ? (h >>> 1) % n : 0;
        }

        private static int mix(int h, int with) {
            int mixed = (h ^ with) * 1103515245 + 12345;
            return mixed ^ (mixed >>> 15);
        }

        private void drawDeaths(int which) {
            Folk folk = hill.folk;
            for (int p = 0; p < folk.people; p++) {
                if (folk.familyOf[p] != NONE
                    && draw(100, which + p) < hill.dyingWays(folk.ageOf(p, false), folk.lame[p])) {
                    folk.leaveFamily(p);
                }
            }
        }

        /** The family of who comes, NONE if nobody does. */
        private int drawComer(int which) {
            if (hill.folk.isFull() || draw(100, which + 100) >= 50) {
                return NONE;
            }
            int age = draw(90, which + 101);
            int person = hill.folk.addPerson(age, age, draw(9, which + 102) == 0 ? 1 : 0);
            return person == NONE ? NONE : hill.folk.familyOf[person];
        }

        private void sendAway(int family) {
            int person = hill.folk.firstOf(family);
            if (person != NONE) {
                hill.folk.leaveFamily(person);
            }
        }

        private void doLeast(int comer) {
            if (solver.solve(comer)) {
                solver.apply();
                moved += solver.moved;
            } else if (comer != NONE) {
                sendAway(comer);
            }
        }

        private void putNear(int comer) {
            if (comer == NONE) {
                return;
            }
            int wanted = countUpTo(comer);
            int nearest = NONE;
            for (int h = 0; h < hill.text.houses; h++) {
                boolean empty = hill.folk.dweller[h] == NONE;
                if (empty && (nearest == NONE || Math.abs(h - wanted) < Math.abs(nearest - wanted))) {
                    nearest = h;
                }
            }
            if (nearest == NONE) {
                sendAway(comer);
            } else {
                hill.folk.moveTo(comer, nearest);
            }
        }

        private int countUpTo(int comer) {
            hill.takeToldAges();
            int upTo = 0;
            for (int h = 0; h < hill.text.houses; h++) {
                int family = hill.folk.dweller[h];
                if (family != NONE && hill.key[family] <= hill.key[comer]) {
                    upTo++;
                }
            }
            return upTo;
        }

        private void doSort(int comer) {
            hill.takeToldAges();
            hill.lineUp(comer);
            if (hill.inRow > hill.text.houses) {
                sendAway(comer);
                hill.lineUp(NONE);
            }
            int lowest = hill.text.houses - hill.inRow;
            hill.folk.emptyHouses();
            for (int i = 0; i < hill.inRow; i++) {
                int family = hill.who[i];
                if (family != comer && hill.folk.home[family] != lowest + i) {
                    moved++;
                }
                hill.folk.home[family] = lowest + i;
                hill.folk.dweller[lowest + i] = family;
            }
        }
    }
}
