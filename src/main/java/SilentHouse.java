import java.util.Arrays;

/**
 * A theatre that pays by silence. The class itself only looks at what it is asked and hands on;
 * House holds all that an image keeps, Reader reads texts, Ear hears lines, Evening plays nights
 * and Reckoner answers what would have been.
 */
public final class SilentHouse {
    public static final int NONE = -1;

    private static final int REFUSED = -2;
    private static final int NOT_CAUSED = -1000;
    private static final int NOT_FAIR = -1000000;

    private static final int PEOPLE = 6;
    private static final int EVERYBODY = 63;
    private static final int SEATS = 16;
    private static final int ROWS = 4;
    private static final int PLACES = 4;
    private static final int LINES = 10;
    private static final int STEPS = 30;
    private static final int TEXTS = 4;
    private static final int BYTES = 300;
    private static final int CLAUSES = 24;
    private static final int MOST_OPEN = 8;
    private static final int MOST_NUMBER = 9999;
    private static final int MOST_VALUE = 1000000;
    private static final int MOST_LOUD = 99;
    private static final int MOST_DUES = 999;
    private static final int MOST_BILL = 990;

    /** For each seat the seats near it, as bits. */
    private static final int[] NEAR_SEATS = {
        0x0012, 0x0025, 0x004A, 0x0084, 0x0121, 0x0252, 0x04A4, 0x0848,
        0x1210, 0x2520, 0x4A40, 0x8480, 0x2100, 0x5200, 0xA400, 0x4800};

    /** How many orders so many people have. */
    private static final int[] ORDERS = {1, 1, 2, 6, 24, 120, 720};

    /** The words of the language; a word's number is its place here, and the names come first. */
    private static final String WORDS =
        "wit shame row sort power near all laughing rounds coughs bill people often coughed laughs loud dues seat out hire night at or and not ";

    private static final int WIT = 0;
    private static final int SHAME = 1;
    private static final int ROW = 2;
    private static final int SORT = 3;
    private static final int POWER = 4;
    private static final int NEAR = 5;
    private static final int ALL = 6;
    private static final int LAUGHING = 7;
    private static final int ROUNDS = 8;
    private static final int COUGHS = 9;
    private static final int BILL = 10;
    private static final int MANY = 11;
    private static final int OFTEN = 12;
    private static final int COUGHED = 13;
    private static final int NAMES = 14;
    private static final int LAUGHS = 14;
    private static final int DUES = 16;
    private static final int SEAT = 17;
    private static final int OUT = 18;
    private static final int HIRE = 19;
    private static final int NIGHT = 20;
    private static final int AT = 21;
    private static final int OR = 22;
    private static final int AND = 23;
    private static final int NOT = 24;

    // A law's number is its word's less LAUGHS.
    private static final int LAUGHS_LAW = 0;
    private static final int LOUD_LAW = 1;
    private static final int DUES_LAW = 2;
    private static final int LAWS = 3;

    /** For each law the names that it may use, as bits by their word's number. */
    private static final int[] NAMES_OF_LAW = {0x007F, 0x0398, 0x3C07};

    // A token is its sign, or one of these; WORD and a word's number, NUMBER and what it is.
    private static final int AT_MOST = 128;
    private static final int AT_LEAST = 129;
    private static final int NEGATIVE = 130;
    private static final int END = 131;
    private static final int NO_TOKEN = 132;
    private static final int WORD = 200;
    private static final int NUMBER = 300;

    // A law's code: a number as it is, NAME and a name's number, OPERATOR and a token.
    private static final int NAME = 10000;
    private static final int OPERATOR = 20000;

    private static final int CANNOT_STAND = 1;
    private static final int NUMBER_UNTOLD = 2;
    private static final int TOO_DEEP = 3;
    private static final int LAW_AGAIN = 4;
    private static final int NAME_ELSEWHERE = 5;
    private static final int TOO_MANY_CLAUSES = 6;

    private final House house = new House();
    private final House kept = new House();
    private final Reader reader = new Reader();
    private final Judge judge = new Judge();
    private final Ear ear = new Ear(house, judge);
    private final Evening evening = new Evening(house, judge, ear);
    private final Reckoner reckoner = new Reckoner(house, ear);

    public SilentHouse() {
    }

    public int person(int wit, int shame, int cold) {
        if (!within(wit, 9) || !within(shame, 9) || !within(cold, 10)) {
            return NONE;
        }
        return house.tellPerson(wit, shame, cold);
    }

    public int line(int sort, int power) {
        if (!within(sort, 2) || !within(power, 9)) {
            return NONE;
        }
        reckoner.forget();
        return house.tellLine(sort, power);
    }

    public boolean seed(int seed) {
        if (!within(seed, 9999)) {
            return false;
        }
        house.x = seed * 3 + 17;
        return true;
    }

    public int feed(int a, int b, int c, int d, int e) {
        Tokens tape = reader.tokens;
        if (tape.length + 20 > BYTES) {
            return NONE;
        }
        tape.append(a);
        tape.append(b);
        tape.append(c);
        tape.append(d);
        tape.append(e);
        return tape.length;
    }

    public int end(int n) {
        if (!within(n, reader.tokens.length)) {
            return NONE;
        }
        reader.tokens.length = n;
        return n;
    }

    public int text() {
        if (house.texts >= TEXTS) {
            return NONE;
        }
        boolean faultless = reader.read();
        reader.tokens.length = 0;
        return faultless ? house.tellScript(new Script(reader)) : NONE;
    }

    public int fault(int what) {
        if (what == 0) {
            return reader.fault;
        }
        return what == 1 ? reader.place : NONE;
    }

    public boolean by(int text) {
        if (text != NONE && !within(text, house.texts - 1)) {
            return false;
        }
        house.ruling = text;
        ear.forget();
        reckoner.forget();
        return true;
    }

    public boolean seat(int person, int seat) {
        reckoner.forget();
        return house.putOn(person, seat);
    }

    public boolean hire(int person, boolean is) {
        reckoner.forget();
        return house.keepStill(person, is);
    }

    public int night() {
        return evening.play();
    }

    public int played(int text) {
        if (!within(text, TEXTS - 1)) {
            return REFUSED;
        }
        Script script = house.scripts[text];
        if (text >= house.texts || script == null) {
            return REFUSED;
        }
        reckoner.forget();
        for (int clause = 0; clause < script.kinds.length; clause++) {
            if (!act(script, clause)) {
                return clause;
            }
        }
        return NONE;
    }

    public int undo() {
        if (!house.steps.takeBack(house)) {
            return NONE;
        }
        reckoner.forget();
        return house.steps.count;
    }

    public int of(int person, int what) {
        if (!house.isTold(person)) {
            return REFUSED;
        }
        switch (what) {
            case 0: return house.seats[person];
            case 1: return house.still >> person & 1;
            case 2: return house.paid[person];
            case 3: return house.wit[person];
            case 4: return house.shame[person];
            case 5: return house.cold[person];
            default: return REFUSED;
        }
    }

    public int wave(int line, int what) {
        if (!within(line, house.lines - 1)) {
            return NONE;
        }
        ear.listen(line, house.sitting(), house.still, house.seats);
        switch (what) {
            case 0: return ear.laughing;
            case 1: return ear.rounds;
            case 2: return ear.loudness(line, 0);
            case 3: return house.sorts[line];
            case 4: return house.powers[line];
            default: return NONE;
        }
    }

    public int all(int set) {
        return within(set, EVERYBODY) ? reckoner.sumOf(set) : NONE;
    }

    public int caused(int person) {
        if (!house.sits(person)) {
            return NOT_CAUSED;
        }
        return reckoner.sumOf(EVERYBODY) - reckoner.sumOf(EVERYBODY & ~(1 << person));
    }

    public int fair(int person, int what) {
        if (!house.sits(person) || !within(what, 1)) {
            return NOT_FAIR;
        }
        reckoner.share(person);
        return what == 0 ? reckoner.upper : reckoner.lower;
    }

    public int quietest(int seat) {
        if (seat != NONE && !within(seat, SEATS - 1)) {
            return REFUSED;
        }
        reckoner.arrange();
        return seat == NONE ? reckoner.leastSum : reckoner.quietestOn[seat];
    }

    public int cut(int bill) {
        return within(bill, MOST_BILL) ? reckoner.fewestCut(bill) : NONE;
    }

    public int stilled(int bill) {
        return within(bill, MOST_BILL) ? reckoner.fewestStilled(bill) : NONE;
    }

    public int seen(int loud) {
        if (loud == NONE) {
            house.seenLines = 0;
            return 0;
        }
        if (!within(loud, MOST_LOUD) || house.seenLines >= house.lines) {
            return REFUSED;
        }
        house.seenLouds[house.seenLines] = loud;
        house.seenLines++;
        return house.seenLines;
    }

    public int who(int i) {
        return i < NONE ? NONE : reckoner.possible(i);
    }

    public int image() {
        kept.copyFrom(house);
        return house.nights;
    }

    public int back() {
        house.copyFrom(kept);
        ear.forget();
        reckoner.forget();
        return house.nights;
    }

    public int about(int what) {
        switch (what) {
            case 0: return house.people;
            case 1: return house.lines;
            case 2: return house.nights;
            case 3: return house.x;
            case 4: return house.texts;
            case 5: return house.ruling;
            case 6: return house.steps.count;
            case 7: return house.seenLines;
            case 8: return reader.tokens.length;
            default: return what >= 10 && what < 10 + SEATS ? house.whoIsOn(what - 10) : REFUSED;
        }
    }

    private boolean act(Script script, int clause) {
        int person = script.persons[clause];
        switch (script.kinds[clause]) {
            case SEAT: return house.putOn(person, script.seats[clause]);
            case OUT: return house.putOn(person, NONE);
            case HIRE: return house.keepStill(person, true);
            case NIGHT: return evening.play() != NONE;
            default: return true;
        }
    }

    private static boolean within(int number, int most) {
        return number >= 0 && number <= most;
    }

    /** What each step that can be taken back found, in a ring: the oldest makes room. */
    private static final class Steps {
        private final int[] seats = new int[STEPS * PEOPLE];
        private final int[] paid = new int[STEPS * PEOPLE];
        private final int[] still = new int[STEPS];
        private final int[] x = new int[STEPS];
        private final int[] nights = new int[STEPS];
        private int oldest = 0;
        private int count = 0;

        void keep(House house) {
            int step = (oldest + count) % STEPS;
            if (count < STEPS) {
                count++;
            } else {
                oldest = (oldest + 1) % STEPS;
            }
            System.arraycopy(house.seats, 0, seats, step * PEOPLE, PEOPLE);
            System.arraycopy(house.paid, 0, paid, step * PEOPLE, PEOPLE);
            still[step] = house.still;
            x[step] = house.x;
            nights[step] = house.nights;
        }

        boolean takeBack(House house) {
            if (count <= 0) {
                return false;
            }
            count--;
            int step = (oldest + count) % STEPS;
            System.arraycopy(seats, step * PEOPLE, house.seats, 0, PEOPLE);
            System.arraycopy(paid, step * PEOPLE, house.paid, 0, PEOPLE);
            house.still = still[step];
            house.x = x[step];
            house.nights = nights[step];
            return true;
        }

        void copyFrom(Steps other) {
            System.arraycopy(other.seats, 0, seats, 0, STEPS * PEOPLE);
            System.arraycopy(other.paid, 0, paid, 0, STEPS * PEOPLE);
            System.arraycopy(other.still, 0, still, 0, STEPS);
            System.arraycopy(other.x, 0, x, 0, STEPS);
            System.arraycopy(other.nights, 0, nights, 0, STEPS);
            oldest = other.oldest;
            count = other.count;
        }
    }

    /** All that an image keeps. */
    private static final class House {
        private final int[] wit = new int[PEOPLE];
        private final int[] shame = new int[PEOPLE];
        private final int[] cold = new int[PEOPLE];
        private final int[] seats = {NONE, NONE, NONE, NONE, NONE, NONE};
        private final int[] paid = new int[PEOPLE];
        private final int[] sorts = new int[LINES];
        private final int[] powers = new int[LINES];
        private final int[] seenLouds = new int[LINES];
        private final Script[] scripts = new Script[TEXTS];
        private final Steps steps = new Steps();
        private int people = 0;
        private int still = 0;
        private int lines = 0;
        private int seenLines = 0;
        private int texts = 0;
        private int ruling = NONE;
        private int x = 17;
        private int nights = 0;

        int tellPerson(int itsWit, int itsShame, int itsCold) {
            if (people >= PEOPLE) {
                return NONE;
            }
            wit[people] = itsWit;
            shame[people] = itsShame;
            cold[people] = itsCold;
            people++;
            return people - 1;
        }

        int tellLine(int itsSort, int itsPower) {
            if (lines >= LINES) {
                return NONE;
            }
            sorts[lines] = itsSort;
            powers[lines] = itsPower;
            lines++;
            return lines - 1;
        }

        int tellScript(Script script) {
            if (texts >= TEXTS) {
                return NONE;
            }
            scripts[texts] = script;
            texts++;
            return texts - 1;
        }

        boolean putOn(int person, int seat) {
            if (!isTold(person) || seat < NONE || seat >= SEATS || seats[person] == seat) {
                return false;
            }
            if (seat != NONE && whoIsOn(seat) != NONE) {
                return false;
            }
            steps.keep(this);
            seats[person] = seat;
            return true;
        }

        boolean keepStill(int person, boolean is) {
            if (!isTold(person) || (still >> person & 1) == (is ? 1 : 0)) {
                return false;
            }
            steps.keep(this);
            still ^= 1 << person;
            return true;
        }

        boolean isTold(int person) {
            return person >= 0 && person < people && person < PEOPLE;
        }

        boolean sits(int person) {
            return isTold(person) && seats[person] != NONE;
        }

        int sitting() {
            int set = 0;
            for (int person = 0; person < PEOPLE; person++) {
                if (seats[person] != NONE) {
                    set |= 1 << person;
                }
            }
            return set;
        }

        int whoIsOn(int seat) {
            for (int person = 0; person < PEOPLE; person++) {
                if (seats[person] == seat) {
                    return person;
                }
            }
            return NONE;
        }

        /** The text that rules, if it has this law; null where the law is the document's own. */
        Script ruler(int law) {
            if (ruling < 0 || ruling >= TEXTS) {
                return null;
            }
            Script script = scripts[ruling];
            return script != null && script.has(law) ? script : null;
        }

        void copyFrom(House other) {
            System.arraycopy(other.wit, 0, wit, 0, PEOPLE);
            System.arraycopy(other.shame, 0, shame, 0, PEOPLE);
            System.arraycopy(other.cold, 0, cold, 0, PEOPLE);
            System.arraycopy(other.seats, 0, seats, 0, PEOPLE);
            System.arraycopy(other.paid, 0, paid, 0, PEOPLE);
            System.arraycopy(other.sorts, 0, sorts, 0, LINES);
            System.arraycopy(other.powers, 0, powers, 0, LINES);
            System.arraycopy(other.seenLouds, 0, seenLouds, 0, LINES);
            for (int text = 0; text < TEXTS; text++) {
                scripts[text] = other.scripts[text];
            }
            steps.copyFrom(other.steps);
            people = other.people;
            still = other.still;
            lines = other.lines;
            seenLines = other.seenLines;
            texts = other.texts;
            ruling = other.ruling;
            x = other.x;
            nights = other.nights;
        }
    }

    /** A text as it was read; never changed. A law's code stands in from .. to less one. */
    private static final class Script {
        private final int[] code;
        private final int[] from;
        private final int[] to;
        private final int[] kinds;
        private final int[] persons;
        private final int[] seats;
        private final boolean asksPlace;

        Script(Reader reader) {
            code = Arrays.copyOf(reader.code, reader.size);
            from = Arrays.copyOf(reader.from, LAWS);
            to = Arrays.copyOf(reader.to, LAWS);
            kinds = Arrays.copyOf(reader.kinds, reader.clauses);
            persons = Arrays.copyOf(reader.persons, reader.clauses);
            seats = Arrays.copyOf(reader.seats, reader.clauses);
            asksPlace = reader.asksPlace;
        }

        boolean has(int law) {
            return law >= 0 && law < LAWS && from[law] < to[law];
        }
    }

    /** The tape, and its tokens with their first bytes; the last token is the end. */
    private static final class Tokens {
        private final byte[] tape = new byte[BYTES];
        private final int[] tokens = new int[BYTES + 1];
        private final int[] begins = new int[BYTES + 1];
        private int length = 0;
        private int count = 0;

        void append(int four) {
            for (int shift = 24; shift >= 0 && length < BYTES; shift -= 8) {
                tape[length] = (byte) (four >> shift);
                length++;
            }
        }

        void split() {
            count = 0;
            int next = 0;
            for (int i = 0; i < BYTES && next < length; i++) {
                int first = sign(next);
                int behind = next + 1;
                if (!isBlank(first)) {
                    begins[count] = next;
                    if (isLetter(first)) {
                        behind = behind(next, true);
                        tokens[count] = word(next, behind);
                    } else if (isDigit(first)) {
                        behind = behind(next, false);
                        tokens[count] = NUMBER + number(next, behind);
                    } else {
                        tokens[count] = signs(first, sign(next + 1));
                        behind += tokens[count] == AT_MOST || tokens[count] == AT_LEAST ? 1 : 0;
                    }
                    count++;
                }
                next = behind;
            }
            tokens[count] = END;
            begins[count] = length;
        }

        private int behind(int first, boolean letters) {
            int behind = first + 1;
            while (behind < length && (letters ? isLetter(sign(behind)) : isDigit(sign(behind)))) {
                behind++;
            }
            return behind;
        }

        /** A number that is too high stays so, however many digits follow. */
        private int number(int first, int behind) {
            int number = 0;
            for (int place = first; place < behind; place++) {
                number = Math.min(number * 10 + sign(place) - '0', MOST_NUMBER + 1);
            }
            return number;
        }

        /** Walks along WORDS, where each word ends with a blank, beside the letters of the token. */
        private int word(int first, int behind) {
            int word = 0;
            int place = first;
            for (int i = 0; i < WORDS.length(); i++) {
                int letter = WORDS.charAt(i);
                if (letter == ' ') {
                    if (place == behind) {
                        return WORD + word;
                    }
                    word++;
                    place = first;
                } else if (place != NONE) {
                    // NONE: this word isn't it, and its other letters are passed by.
                    place = place < behind && sign(place) == letter ? place + 1 : NONE;
                }
            }
            return NO_TOKEN;
        }

        private int sign(int place) {
            return place >= 0 && place < length && place < BYTES ? tape[place] & 255 : NONE;
        }

        private static int signs(int first, int second) {
            switch (first) {
                case '<': return second == '=' ? AT_MOST : first;
                case '>': return second == '=' ? AT_LEAST : first;
                case '=': case '#': case '+': case '-': case '*': case '/':
                case '(': case ')': case ';': return first;
                default: return NO_TOKEN;
            }
        }

        private static boolean isBlank(int sign) {
            return sign == 32 || sign == 10;
        }

        private static boolean isLetter(int sign) {
            return sign >= 'a' && sign <= 'z' || sign >= 'A' && sign <= 'Z';
        }

        private static boolean isDigit(int sign) {
            return sign >= '0' && sign <= '9';
        }
    }

    /** Reads the tape as a text. Behind the first fault there is nothing but the end to be read. */
    private static final class Reader {
        private static final int EITHER = 0;
        private static final int BOTH = 1;
        private static final int SUM = 2;
        private static final int PRODUCT = 3;

        private final Tokens tokens = new Tokens();
        private final int[] code = new int[BYTES];
        private final int[] from = new int[LAWS];
        private final int[] to = new int[LAWS];
        private final int[] kinds = new int[CLAUSES];
        private final int[] persons = new int[CLAUSES];
        private final int[] seats = new int[CLAUSES];
        private int present = 0;
        private int token = END;
        private int size = 0;
        private int clauses = 0;
        private int law = 0;
        private boolean asksPlace = false;
        private int fault = NONE;
        private int place = NONE;

        boolean read() {
            fault = 0;
            place = NONE;
            size = 0;
            clauses = 0;
            asksPlace = false;
            Arrays.fill(from, 0);
            Arrays.fill(to, 0);
            tokens.split();
            present = 0;
            token = tokens.tokens[0];
            for (int i = 0; i <= CLAUSES && token != END; i++) {
                clause();
            }
            return fault == 0;
        }

        private void clause() {
            int kind = token - WORD;
            if (kind < LAUGHS || kind > NIGHT) {
                refuse(CANNOT_STAND);
            } else if (kind <= DUES && to[kind - LAUGHS] > 0) {
                refuse(LAW_AGAIN);
            } else if (clauses >= CLAUSES) {
                refuse(TOO_MANY_CLAUSES);
            } else {
                kinds[clauses] = kind;
                persons[clauses] = NONE;
                seats[clauses] = NONE;
                advance();
                if (kind <= DUES) {
                    law = kind - LAUGHS;
                    from[law] = size;
                    chain(law == LAUGHS_LAW ? EITHER : SUM, 0);
                    to[law] = size;
                } else {
                    deed(kind);
                }
                expect(';');
                clauses++;
            }
        }

        private void deed(int kind) {
            if (kind != NIGHT) {
                persons[clauses] = numberTo(PEOPLE - 1);
            }
            if (kind == SEAT) {
                expect(WORD + AT);
                seats[clauses] = numberTo(SEATS - 1);
            }
        }

        private int numberTo(int most) {
            int number = token - NUMBER;
            if (number < 0) {
                refuse(CANNOT_STAND);
                return 0;
            }
            if (number > most) {
                refuse(NUMBER_UNTOLD);
                return 0;
            }
            advance();
            return number;
        }

        /** Operands of a rank with its operators between them; depth is how many are open around. */
        private void chain(int rank, int depth) {
            operand(rank, depth);
            for (int i = 0; i < BYTES && rankOf(token) == rank; i++) {
                int operator = token;
                advance();
                operand(rank, depth);
                emit(OPERATOR + operator);
            }
        }

        private void operand(int rank, int depth) {
            switch (rank) {
                case EITHER:
                    chain(BOTH, depth);
                    break;
                case BOTH:
                    ask(depth);
                    break;
                case SUM:
                    chain(PRODUCT, depth);
                    break;
                default:
                    one(depth);
                    break;
            }
        }

        private void ask(int depth) {
            if (token == WORD + NOT) {
                if (opens(depth)) {
                    ask(depth + 1);
                    emit(OPERATOR + WORD + NOT);
                }
                return;
            }
            chain(SUM, depth);
            int relation = token;
            if (isRelation(relation)) {
                advance();
                chain(SUM, depth);
                emit(OPERATOR + relation);
            } else {
                refuse(CANNOT_STAND);
            }
        }

        private void one(int depth) {
            if (token >= NUMBER) {
                emit(numberTo(MOST_NUMBER));
            } else if (token >= WORD && token < WORD + NAMES) {
                nameOf(token - WORD);
            } else if (token == '(') {
                if (opens(depth)) {
                    chain(SUM, depth + 1);
                    expect(')');
                }
            } else if (token == '-') {
                if (opens(depth)) {
                    one(depth + 1);
                    emit(OPERATOR + NEGATIVE);
                }
            } else {
                refuse(CANNOT_STAND);
            }
        }

        private void nameOf(int name) {
            if ((NAMES_OF_LAW[law] >> name & 1) == 0) {
                refuse(NAME_ELSEWHERE);
                return;
            }
            if (law == LAUGHS_LAW && (name == NEAR || name == ROW)) {
                asksPlace = true;
            }
            emit(NAME + name);
            advance();
        }

        private boolean opens(int depth) {
            if (depth >= MOST_OPEN) {
                refuse(TOO_DEEP);
                return false;
            }
            advance();
            return true;
        }

        private void expect(int due) {
            if (token == due) {
                advance();
            } else {
                refuse(CANNOT_STAND);
            }
        }

        private void advance() {
            if (fault == 0 && present < tokens.count) {
                present++;
                token = tokens.tokens[present];
            }
        }

        private void refuse(int what) {
            if (fault == 0) {
                fault = what;
                place = tokens.begins[present];
            }
            token = END;
        }

        private void emit(int what) {
            if (size < BYTES) {
                code[size] = what;
                size++;
            }
        }

        private static int rankOf(int token) {
            switch (token) {
                case WORD + OR: return EITHER;
                case WORD + AND: return BOTH;
                case '+': case '-': return SUM;
                case '*': case '/': return PRODUCT;
                default: return NONE;
            }
        }

        private static boolean isRelation(int token) {
            return token == '<' || token == '>' || token == '=' || token == '#'
                || token == AT_MOST || token == AT_LEAST;
        }
    }

    /** Works out a law by what its names stand for; what is so counts 1, what isn't 0. */
    private static final class Judge {
        private final int[] names = new int[NAMES];
        private final int[] stack = new int[BYTES];

        int value(Script script, int law) {
            if (!script.has(law)) {
                return 0;
            }
            int top = 0;
            int to = Math.min(script.to[law], script.code.length);
            for (int i = script.from[law]; i < to; i++) {
                int what = script.code[i];
                if (what < OPERATOR) {
                    if (top < BYTES) {
                        stack[top] = what < NAME ? what : standsFor(what - NAME);
                        top++;
                    }
                } else if (what == OPERATOR + WORD + NOT || what == OPERATOR + NEGATIVE) {
                    if (top >= 1) {
                        int under = stack[top - 1];
                        stack[top - 1] = what == OPERATOR + NEGATIVE ? -under : 1 - under;
                    }
                } else if (top >= 2) {
                    top--;
                    stack[top - 1] = join(what - OPERATOR, stack[top - 1], stack[top]);
                }
            }
            return top >= 1 ? stack[top - 1] : 0;
        }

        private int standsFor(int name) {
            return name >= 0 && name < NAMES ? names[name] : 0;
        }

        private static int join(int operator, int left, int right) {
            long result;
            switch (operator) {
                case '+': result = (long) left + right; break;
                case '-': result = (long) left - right; break;
                case '*': result = (long) left * right; break;
                case '/': result = right == 0 ? 0 : (long) left / right; break;
                case '<': result = left < right ? 1 : 0; break;
                case '>': result = left > right ? 1 : 0; break;
                case '=': result = left == right ? 1 : 0; break;
                case '#': result = left != right ? 1 : 0; break;
                case AT_MOST: result = left <= right ? 1 : 0; break;
                case AT_LEAST: result = left >= right ? 1 : 0; break;
                case WORD + OR: result = left | right; break;
                default: result = left & right; break;
            }
            if (result > MOST_VALUE) {
                return MOST_VALUE;
            }
            return result < -MOST_VALUE ? -MOST_VALUE : (int) result;
        }
    }

    /**
     * Hears lines. What a law said of a line is kept until another text rules or other people and
     * lines are there, since the same is asked for many orders and sets of people.
     */
    private static final class Ear {
        private static final int COUNTS = PEOPLE + 1;

        private final House house;
        private final Judge judge;
        private final int[] asked = new int[LINES * PEOPLE * ROWS];
        private final int[] agreed = new int[LINES * PEOPLE * ROWS];
        private final int[] louds = new int[LINES * COUNTS * COUNTS];
        private int laughing = 0;
        private int rounds = 0;

        Ear(House itsHouse, Judge itsJudge) {
            house = itsHouse;
            judge = itsJudge;
            Arrays.fill(louds, NONE);
        }

        void forget() {
            Arrays.fill(asked, 0);
            Arrays.fill(agreed, 0);
            Arrays.fill(louds, NONE);
        }

        /** A line before a set of people on seats of theirs: who laughs, and the rounds. */
        void listen(int line, int present, int still, int[] seats) {
            int quiet = present & ~still;
            int laughingSeats = 0;
            boolean more = true;
            laughing = 0;
            rounds = 0;
            for (int round = 0; round < PEOPLE && more; round++) {
                int came = 0;
                int cameSeats = 0;
                int all = Integer.bitCount(laughing);
                for (int person = 0; person < PEOPLE && person < seats.length; person++) {
                    int seat = seats[person];
                    if ((quiet >> person & 1) == 0 || !within(seat, SEATS - 1)) {
                        continue;
                    }
                    int near = Integer.bitCount(laughingSeats & NEAR_SEATS[seat]);
                    if (laughs(line, person, seat / PLACES, near, all)) {
                        came |= 1 << person;
                        cameSeats |= 1 << seat;
                    }
                }
                laughing |= came;
                laughingSeats |= cameSeats;
                quiet &= ~came;
                more = came != 0;
                rounds += more ? 1 : 0;
            }
        }

        /** How loud the line was that has been listened to. */
        int loudness(int line, int coughs) {
            int many = Integer.bitCount(laughing);
            Script script = house.ruler(LOUD_LAW);
            if (script == null || !within(line, LINES - 1)) {
                return many + coughs;
            }
            int slot = (line * COUNTS + many) * COUNTS + rounds;
            if (coughs == 0 && louds[slot] != NONE) {
                return louds[slot];
            }
            judge.names[SORT] = house.sorts[line];
            judge.names[POWER] = house.powers[line];
            judge.names[LAUGHING] = many;
            judge.names[ROUNDS] = rounds;
            judge.names[COUGHS] = coughs;
            int loud = Math.max(0, Math.min(MOST_LOUD, judge.value(script, LOUD_LAW)));
            if (coughs == 0) {
                louds[slot] = loud;
            }
            return loud;
        }

        /** All lines together without coughs; what reaches enough isn't counted to its end. */
        int together(int present, int still, int[] seats, int enough) {
            int sum = 0;
            for (int line = 0; line < house.lines && sum < enough; line++) {
                listen(line, present, still, seats);
                sum += loudness(line, 0);
            }
            return sum;
        }

        private boolean laughs(int line, int person, int row, int near, int all) {
            if (!within(line, LINES - 1) || !within(person, PEOPLE - 1) || !within(row, ROWS - 1)) {
                return false;
            }
            Script script = house.ruler(LAUGHS_LAW);
            if (script == null) {
                return house.sorts[line] == 1 && house.powers[line] > house.shame[person];
            }
            int slot = (line * PEOPLE + person) * ROWS + row;
            // At most 4 laugh near and 5 in all besides the one who is asked: 30 bits do.
            int bit = 1 << (near * PEOPLE + all);
            if ((asked[slot] & bit) == 0) {
                asked[slot] |= bit;
                judge.names[WIT] = house.wit[person];
                judge.names[SHAME] = house.shame[person];
                judge.names[ROW] = row;
                judge.names[SORT] = house.sorts[line];
                judge.names[POWER] = house.powers[line];
                judge.names[NEAR] = near;
                judge.names[ALL] = all;
                if (judge.value(script, LAUGHS_LAW) != 0) {
                    agreed[slot] |= bit;
                }
            }
            return (agreed[slot] & bit) != 0;
        }
    }

    /** Plays nights. */
    private static final class Evening {
        private final House house;
        private final Judge judge;
        private final Ear ear;
        private final int[] often = new int[PEOPLE];
        private final int[] coughed = new int[PEOPLE];

        Evening(House itsHouse, Judge itsJudge, Ear itsEar) {
            house = itsHouse;
            judge = itsJudge;
            ear = itsEar;
        }

        int play() {
            int sitting = house.sitting();
            if (sitting == 0) {
                return NONE;
            }
            house.steps.keep(house);
            Arrays.fill(often, 0);
            Arrays.fill(coughed, 0);
            int bill = 0;
            for (int line = 0; line < house.lines; line++) {
                ear.listen(line, sitting, house.still, house.seats);
                bill += ear.loudness(line, count(sitting));
            }
            for (int person = 0; person < PEOPLE; person++) {
                if (house.sits(person)) {
                    house.paid[person] += dues(person, bill, Integer.bitCount(sitting));
                }
            }
            house.nights++;
            return bill;
        }

        /** Counts who laughed at the line that has been listened to, and draws who coughs behind it. */
        private int count(int sitting) {
            int coughs = 0;
            for (int person = 0; person < PEOPLE; person++) {
                if ((sitting >> person & 1) == 0) {
                    continue;
                }
                often[person] += ear.laughing >> person & 1;
                if (house.x % 10 < house.cold[person]) {
                    coughed[person]++;
                    coughs++;
                }
                house.x = (house.x * 227 + 61) % 30119;
            }
            return coughs;
        }

        private int dues(int person, int bill, int many) {
            Script script = house.ruler(DUES_LAW);
            if (script == null) {
                return many > 0 ? bill / many : 0;
            }
            judge.names[WIT] = house.wit[person];
            judge.names[SHAME] = house.shame[person];
            judge.names[ROW] = house.seats[person] / PLACES;
            judge.names[BILL] = bill;
            judge.names[MANY] = many;
            judge.names[OFTEN] = often[person];
            judge.names[COUGHED] = coughed[person];
            return Math.max(0, Math.min(MOST_DUES, judge.value(script, DUES_LAW)));
        }
    }

    /** Answers what would have been, without coughs. */
    private static final class Reckoner {
        /** Above every sum of all lines. */
        private static final int TO_THE_END = MOST_BILL + 1;

        private final House house;
        private final Ear ear;
        private final int[] sums = new int[EVERYBODY + 1];
        private final int[] louds = new int[LINES];
        private final int[] taken = new int[PEOPLE];
        private final int[] order = new int[PEOPLE];
        private final int[] trial = new int[PEOPLE];
        private final int[] quietestOn = new int[SEATS];
        private int ordered = 0;
        private boolean arranged = false;
        private int leastSum = 0;
        private int upper = 0;
        private int lower = 1;

        Reckoner(House itsHouse, Ear itsEar) {
            house = itsHouse;
            ear = itsEar;
            Arrays.fill(sums, NONE);
        }

        void forget() {
            Arrays.fill(sums, NONE);
            arranged = false;
        }

        int sumOf(int set) {
            int present = set & EVERYBODY & house.sitting();
            if (sums[present] == NONE) {
                sums[present] = ear.together(present, house.still, house.seats, TO_THE_END);
            }
            return sums[present];
        }

        /** The mean over all orders, by how many orders have just a set ahead of the person. */
        void share(int person) {
            int sitting = house.sitting();
            int many = Integer.bitCount(sitting);
            int others = sitting & ~(1 << person);
            int grown = 0;
            for (int set = 0; set <= EVERYBODY; set++) {
                int behind = many - 1 - Integer.bitCount(set);
                if ((set & ~others) == 0 && behind >= 0) {
                    int orders = ORDERS[Integer.bitCount(set)] * ORDERS[behind];
                    grown += orders * (sumOf(set | 1 << person) - sumOf(set));
                }
            }
            int common = commonDivisor(Math.abs(grown), ORDERS[many]);
            upper = common > 0 ? grown / common : 0;
            lower = common > 0 ? ORDERS[many] / common : 1;
        }

        private static int commonDivisor(int one, int other) {
            int high = one;
            int low = other;
            // Two ints never need fifty turns.
            for (int i = 0; i < 100 && low != 0; i++) {
                int rest = high % low;
                high = low;
                low = rest;
            }
            return high;
        }

        void arrange() {
            if (arranged) {
                return;
            }
            arranged = true;
            startOrder();
            leastSum = TO_THE_END;
            Script script = house.ruler(LAUGHS_LAW);
            // A law that asks neither near nor row hears every order alike: the first is it.
            int turns = script != null && script.asksPlace ? ORDERS[ordered] : 1;
            for (int turn = 0; turn < turns; turn++) {
                for (int i = 0; i < ordered; i++) {
                    trial[order[i]] = taken[i];
                }
                int sum = ear.together(house.sitting(), house.still, trial, leastSum);
                if (sum < leastSum) {
                    leastSum = sum;
                    keepOrder();
                }
                nextOrder();
            }
        }

        private void startOrder() {
            ordered = 0;
            for (int person = 0; person < PEOPLE; person++) {
                if (house.sits(person)) {
                    order[ordered] = person;
                    ordered++;
                }
            }
            int seats = 0;
            for (int seat = 0; seat < SEATS && seats < PEOPLE; seat++) {
                if (house.whoIsOn(seat) != NONE) {
                    taken[seats] = seat;
                    seats++;
                }
            }
        }

        private void keepOrder() {
            Arrays.fill(quietestOn, NONE);
            for (int i = 0; i < ordered; i++) {
                quietestOn[taken[i]] = order[i];
            }
        }

        /** The order that comes next, the lowest person on the lowest seat first. */
        private void nextOrder() {
            int rising = ordered - 2;
            while (rising >= 0 && order[rising] > order[rising + 1]) {
                rising--;
            }
            if (rising < 0) {
                return;
            }
            int higher = ordered - 1;
            while (higher > rising && order[higher] < order[rising]) {
                higher--;
            }
            swap(rising, higher);
            int last = ordered - 1;
            for (int first = rising + 1; first < last; first++) {
                swap(first, last);
                last--;
            }
        }

        private void swap(int one, int other) {
            int person = order[one];
            order[one] = order[other];
            order[other] = person;
        }

        int fewestCut(int bill) {
            int sitting = house.sitting();
            int sum = 0;
            for (int line = 0; line < house.lines; line++) {
                ear.listen(line, sitting, house.still, house.seats);
                louds[line] = ear.loudness(line, 0);
                sum += louds[line];
            }
            int best = (1 << house.lines) - 1;
            for (int set = 0; set < 1 << house.lines; set++) {
                if (Integer.bitCount(set) < Integer.bitCount(best) && sum - loudOf(set) <= bill) {
                    best = set;
                }
            }
            return best;
        }

        private int loudOf(int set) {
            int sum = 0;
            for (int line = 0; line < LINES; line++) {
                if ((set >> line & 1) != 0) {
                    sum += louds[line];
                }
            }
            return sum;
        }

        int fewestStilled(int bill) {
            int sitting = house.sitting();
            int able = sitting & ~house.still;
            int best = NONE;
            for (int set = 0; set <= EVERYBODY; set++) {
                boolean fewer = best == NONE || Integer.bitCount(set) < Integer.bitCount(best);
                if (fewer && (set & ~able) == 0
                    && ear.together(sitting, house.still | set, house.seats, bill + 1) <= bill) {
                    best = set;
                }
            }
            return best;
        }

        /** The i-th set that can have been there; how many there are for NONE. */
        int possible(int i) {
            int sitting = house.sitting();
            int found = 0;
            for (int set = 0; set <= EVERYBODY; set++) {
                if ((set & ~sitting) == 0 && soundsAsSeen(set)) {
                    if (found == i) {
                        return set;
                    }
                    found++;
                }
            }
            return i == NONE ? found : NONE;
        }

        private boolean soundsAsSeen(int set) {
            for (int line = 0; line < house.seenLines; line++) {
                ear.listen(line, set, house.still, house.seats);
                if (ear.loudness(line, 0) != house.seenLouds[line]) {
                    return false;
                }
            }
            return true;
        }
    }
}
