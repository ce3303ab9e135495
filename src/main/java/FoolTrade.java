/** Two villages exchange their fools each spring; README.md tells how it is used. */
public final class FoolTrade {
    public static final int NONE = -1;
    public static final long NOTHING = -1000000000000000L;

    private static final int VILLAGES = 2;
    private static final int MOST_PEOPLE = 8;
    private static final int MOST_STATEMENTS = 80;
    private static final int MOST_LETTERS = 6;
    private static final int MOST_DIGITS = 4;
    private static final int MOST_OPEN = 6;
    private static final int TAPE = 1600;
    private static final int FEED = 20;
    private static final int WITS_KINDS = 10;

    private static final int TOP_HARVEST = 999;
    private static final int TOP_QUARREL = 99;
    private static final int TOP_AWAY = 99;
    private static final int TOP_WITS = 9;
    private static final int TOP_SNOW = 100;
    private static final int TOP_NUMBER = 9999;
    private static final int LAST_YEAR = 999;
    private static final int TOP_SUM = 1000000;

    private static final int AHEAD = 60;
    private static final int AT_ONCE = 100;
    private static final int SEEN_AHEAD = 30;
    private static final int SEEN_ROWS = 16;
    private static final int ROW_BYTES = 4;
    private static final int TOLD_KEPT = 40;
    private static final int UNDOABLE = 20;
    private static final int LONGEST_IMAGE = 33;

    // The order of these numbers is the order of the words in WORDS; those up to HOME are slots of Sums, too.
    private static final String WORDS = "harvest quarrel year wits oath cheer away guests number lives home sends goose does fights stays village person of snow or and not all min max first last often total most least ";
    private static final int HARVEST = 0;
    private static final int QUARREL = 1;
    private static final int YEAR = 2;
    private static final int WITS = 3;
    private static final int OATH = 4;
    private static final int CHEER = 5;
    private static final int AWAY = 6;
    private static final int GUESTS = 7;
    private static final int NUMBER = 8;
    private static final int LIVES = 9;
    private static final int HOME = 10;
    private static final int SENDS = 11;
    private static final int DOES = 13;
    private static final int STAYS = 15;
    private static final int VILLAGE = 16;
    private static final int PERSON = 17;
    private static final int OF = 18;
    private static final int SNOW = 19;
    private static final int OR = 20;
    private static final int AND = 21;
    private static final int NOT = 22;
    private static final int ALL = 23;
    private static final int MIN = 24;
    private static final int MAX = 25;
    private static final int FIRST = 26;
    private static final int LAST = 27;
    private static final int OFTEN = 28;
    private static final int TOTAL = 29;
    private static final int MOST = 30;
    private static final int LEAST = 31;

    private static final int RULES = 5;
    private static final int RULE_SENDS = 0;
    private static final int RULE_GOOSE = 1;
    private static final int RULE_DOES = 2;
    private static final int RULE_FIGHTS = 3;
    private static final int RULE_STAYS = 4;

    // Which slots a text may name: one bit each.
    private static final int SCOPE_VILLAGE = 1 << HARVEST | 1 << QUARREL | 1 << YEAR;
    private static final int SCOPE_FIGHTS = SCOPE_VILLAGE | 1 << GUESTS;
    private static final int SCOPE_TRAITS = 1 << WITS | 1 << OATH | 1 << CHEER | 1 << AWAY;
    private static final int SCOPE_PERSON = SCOPE_VILLAGE | SCOPE_TRAITS;
    private static final int SCOPE_QUESTION = SCOPE_TRAITS | 1 << YEAR | 1 << NUMBER | 1 << LIVES | 1 << HOME;

    private static final int HARVEST_AT = 11;
    private static final int DOES_AT = 13;
    private static final int SLOTS = 15;

    // Code is a row in postfix order: a number up to TOP_NUMBER is itself, then come slots, then signs.
    private static final int SLOT = 10000;
    private static final int SIGNS = 20000;
    private static final int SIGN_NOT = 20000;
    private static final int SIGN_HARVEST = 20001;
    private static final int SIGN_DOES = 20002;
    private static final int PAIR_SIGNS = 20003;
    private static final int SIGN_PLUS = 20003;
    private static final int SIGN_MINUS = 20004;
    private static final int SIGN_TIMES = 20005;
    private static final int SIGN_OVER = 20006;
    private static final int SIGN_MIN = 20007;
    private static final int SIGN_MAX = 20008;
    private static final int SIGN_LESS = 20009;
    private static final int SIGN_MORE = 20010;
    private static final int SIGN_SAME = 20011;
    private static final int SIGN_AND = 20012;
    private static final int SIGN_OR = 20013;
    // Six levels with at most six values waiting on each stay far below it.
    private static final int STACK = 64;
    private static final int CODE = TAPE + 32;

    private static final int KIND_END = 0;
    private static final int KIND_WORD = 1;
    private static final int KIND_NUMBER = 2;
    private static final int KIND_SIGN = 3;
    private static final int KIND_STRAY = 4;

    private static final int FAULT_TEXT = 1;
    private static final int FAULT_NUMBER = 2;
    private static final int FAULT_NAME = 3;
    private static final int FAULT_OPEN = 4;
    private static final int FAULT_MANY = 5;

    private static final int REFUSED_TAPE = 0;
    private static final int REFUSED_TEXT = 1;
    private static final int REFUSED_PERSON = 2;
    private static final int REFUSED_YEARS = 3;
    private static final int REFUSED_UNDO = 4;
    private static final int REFUSED_STATE = 5;
    private static final int REFUSALS = 6;

    private final int[] tape = new int[TAPE];
    private int taped;
    private final Tokens tokens = new Tokens(tape);
    private final Grammar grammar = new Grammar(tokens);
    private final Treaty terms = new Treaty();
    private final Treaty draft = new Treaty();
    private final Question question = new Question();
    private final Course course = new Course(terms, new Sums());
    private final World now = new World();
    private final World scratch = new World();
    private final Past past = new Past();
    private final Pairs pairs = new Pairs(terms, course);
    private final Exam examiner = new Exam(terms, course);
    private final Sight sight = new Sight(course);
    private final int[] picture = new int[LONGEST_IMAGE];
    private int pictured;
    private final int[] refused = new int[REFUSALS];
    private int draws = 1;
    private int faultKind;
    private int faultPlace = NONE;

    public FoolTrade() {
    }

    public int feed(int a, int b, int c, int d, int e) {
        if (taped + FEED > TAPE) {
            return refuse(REFUSED_TAPE);
        }
        tapeNumber(a);
        tapeNumber(b);
        tapeNumber(c);
        tapeNumber(d);
        tapeNumber(e);
        return taped;
    }

    private void tapeNumber(int number) {
        for (int shift = 24; shift >= 0 && taped < TAPE; shift -= 8) {
            tape[taped] = number >>> shift & 255;
            taped++;
        }
    }

    private int refuse(int kind) {
        refused[kind]++;
        return NONE;
    }

    public boolean end(int n) {
        if (n < 0 || n > taped) {
            refuse(REFUSED_TAPE);
            return false;
        }
        taped = n;
        return true;
    }

    public int treaty() {
        tokens.open(taped);
        taped = 0;
        boolean whole = draft.read(tokens, grammar);
        takeFault();
        if (!whole) {
            return refuse(REFUSED_TEXT);
        }
        terms.take(draft);
        now.begin(terms);
        past.forget();
        sight.forget();
        return terms.statements;
    }

    private void takeFault() {
        faultKind = tokens.fault;
        faultPlace = tokens.place;
    }

    public int fault(int what) {
        if (what == 0) {
            return faultKind;
        }
        return what == 1 ? faultPlace : NONE;
    }

    public int has(int what) {
        switch (what) {
            case 0: return terms.villages;
            case 1: return terms.people;
            case 2: return now.year;
            case 3: return course.countAway(now);
            case 4: return course.countPassed(now);
            case 5: return past.toldCount(now);
            case 6: return sight.rows;
            case 7: return past.acts;
            default: return NONE;
        }
    }

    private boolean noVillage(int village) {
        return village < 0 || village >= terms.villages;
    }

    private boolean noPerson(int person) {
        return person < 0 || person >= terms.people;
    }

    private boolean noTreaty() {
        return terms.villages < VILLAGES;
    }

    /** Whether n more YEARS would go beyond the last one; n is small and not below 0. */
    private boolean beyond(int n) {
        return now.year + n > LAST_YEAR;
    }

    public int letter(int kind, int which, int k) {
        if (k < 0 || k >= MOST_LETTERS) {
            return NONE;
        }
        if (kind == 0 && !noVillage(which)) {
            return terms.letterOf(which, k);
        }
        if (kind == 1 && !noPerson(which)) {
            return terms.letterOf(VILLAGES + which, k);
        }
        return NONE;
    }

    public int village(int village, int what) {
        if (noVillage(village)) {
            return NONE;
        }
        switch (what) {
            case 0: return now.harvest[village];
            case 1: return now.quarrel[village];
            case 2: return course.countLiving(now, village);
            case 3: return course.countOwn(now, village);
            case 4: return course.toSend(now, village);
            case 5: return bit(course.wouldPass(now, course.toSend(now, village)));
            default: return NONE;
        }
    }

    private static int bit(boolean holds) {
        return holds ? 1 : 0;
    }

    public int person(int person, int what) {
        if (noPerson(person)) {
            return NONE;
        }
        switch (what) {
            case 0: return terms.home[person];
            case 1: return now.place[person];
            case 2: return now.wits[person];
            case 3: return terms.oath[person];
            case 4: return terms.cheer[person];
            case 5: return now.away[person];
            case 6: return bit(course.wouldPass(now, person));
            default: return NONE;
        }
    }

    public long does(int person, int village) {
        if (noPerson(person) || noVillage(village)) {
            return NOTHING;
        }
        return course.ruled(now, RULE_DOES, person, village);
    }

    public int kept(int k, int what) {
        return past.toldOf(now, k, what);
    }

    public int later(int village, int n, int what) {
        if (noVillage(village) || what < 0 || what > 1 || !goAhead(n)) {
            return NONE;
        }
        return what == 0 ? scratch.harvest[village] : scratch.quarrel[village];
    }

    public int lives(int person, int n) {
        if (noPerson(person) || !goAhead(n)) {
            return NONE;
        }
        return scratch.place[person];
    }

    /** The scratch world becomes what is behind n YEARS AHEAD; false when n can't be. */
    private boolean goAhead(int n) {
        if (n < 0 || n > AHEAD || beyond(n)) {
            return false;
        }
        scratch.take(now);
        for (int i = 0; i < n; i++) {
            course.ordinaryYear(scratch);
        }
        return true;
    }

    public int shortage(int village) {
        if (noVillage(village)) {
            return NONE;
        }
        scratch.take(now);
        for (int n = 0; n <= AHEAD; n++) {
            if (course.countOwn(scratch, village) == 0) {
                return n;
            }
            if (beyond(n + 1)) {
                return NONE;
            }
            course.ordinaryYear(scratch);
        }
        return NONE;
    }

    public long gain(int one, int other, int village) {
        if (noVillage(village) || noPerson(one) || noPerson(other) || beyond(1)) {
            return NOTHING;
        }
        if (!course.canSend(now, one, 0) || !course.canSend(now, other, 1)) {
            return NOTHING;
        }
        return pairs.gainOf(now, one, other, village);
    }

    public int bargain(int what) {
        if (what < 0 || what > 2 || noTreaty() || beyond(1) || !pairs.findBargain(now)) {
            return NONE;
        }
        return what == 2 ? pairs.less : pairs.found[what];
    }

    public int rest(int what) {
        if (what < 0 || what > 1 || noTreaty() || beyond(1) || !pairs.findRest(now)) {
            return NONE;
        }
        return pairs.found[what];
    }

    public int exam(int k) {
        if (noTreaty() || k < NONE || k >= Exam.LONGEST || !examiner.find(now)) {
            return NONE;
        }
        if (k == NONE) {
            return examiner.count;
        }
        return k < examiner.count ? examiner.told(k) : NONE;
    }

    public int feign(int person) {
        if (noPerson(person) || beyond(1) || now.place[person] != terms.home[person]) {
            return NONE;
        }
        int own = now.wits[person];
        scratch.take(now);
        for (int far = 0; far <= TOP_WITS; far++) {
            if (feigned(person, own - far)) {
                return own - far;
            }
            if (feigned(person, own + far)) {
                return own + far;
            }
        }
        return NONE;
    }

    private boolean feigned(int person, int wits) {
        if (wits < 0 || wits > TOP_WITS) {
            return false;
        }
        scratch.wits[person] = wits;
        return course.toSend(scratch, terms.home[person]) == person && course.wouldPass(scratch, person);
    }

    public long worth(int village, int n) {
        if (noVillage(village) || n < 1 || !goAhead(n)) {
            return NOTHING;
        }
        int traded = scratch.harvest[village];
        scratch.take(now);
        for (int i = 0; i < n; i++) {
            course.quietYear(scratch);
        }
        return (long) traded - scratch.harvest[village];
    }

    public int see() {
        int length = taped;
        taped = 0;
        if (noTreaty() || !sight.look(tape, length)) {
            return refuse(REFUSED_TEXT);
        }
        return sight.rows;
    }

    public int wits(int person) {
        if (noPerson(person)) {
            return NONE;
        }
        sight.foresee(now, person, sight.farthestSeen());
        return sight.possible(now);
    }

    public int tells(int person, int what) {
        if (noPerson(person) || what < 0 || what > 2 || beyond(1)) {
            return NONE;
        }
        sight.foresee(now, person, SEEN_AHEAD);
        return sight.findTelling(now) ? sight.telling[what] : NONE;
    }

    public boolean teach(int person, int wits) {
        if (noPerson(person) || wits < 0 || wits > TOP_WITS || now.wits[person] == wits) {
            refuse(REFUSED_PERSON);
            return false;
        }
        past.remember(now);
        now.wits[person] = wits;
        return true;
    }

    public int bring(int person) {
        if (noPerson(person)) {
            return refuse(REFUSED_PERSON);
        }
        past.remember(now);
        now.cross(person);
        return now.place[person];
    }

    public boolean calm(int village) {
        if (noVillage(village) || now.quarrel[village] == 0) {
            refuse(REFUSED_PERSON);
            return false;
        }
        past.remember(now);
        now.quarrel[village] = 0;
        return true;
    }

    public int years(int n) {
        if (cannotPass(n)) {
            return refuse(REFUSED_YEARS);
        }
        past.remember(now);
        int exchanges = 0;
        for (int i = 0; i < n; i++) {
            int year = now.year;
            course.ordinaryYear(now);
            past.keep(now, year, course.sent);
            if (course.sent[0] != NONE) {
                exchanges++;
            }
        }
        return exchanges;
    }

    private boolean cannotPass(int n) {
        return noTreaty() || n < 1 || n > AT_ONCE || beyond(n);
    }

    public int chance(int n) {
        if (cannotPass(n)) {
            return refuse(REFUSED_YEARS);
        }
        past.remember(now);
        int snowy = 0;
        for (int i = 0; i < n; i++) {
            int year = now.year;
            if (draw(100) < terms.snow) {
                course.snowyYear(now);
                snowy++;
            } else {
                course.ordinaryYear(now);
            }
            past.keep(now, year, course.sent);
        }
        return snowy;
    }

    private int draw(int many) {
        draws = (int) (1103515245L * draws + 12345L & 2147483647L);
        return many > 0 ? draws / 64 % many : 0;
    }

    public boolean undo() {
        if (!past.recall(now)) {
            refuse(REFUSED_UNDO);
            return false;
        }
        return true;
    }

    public boolean seed(int seed) {
        if (seed < 0) {
            refuse(REFUSED_STATE);
            return false;
        }
        draws = seed;
        return true;
    }

    public long ask() {
        int length = taped;
        taped = 0;
        if (noTreaty()) {
            return NOTHING;
        }
        tokens.open(length);
        boolean whole = question.read(tokens, grammar);
        takeFault();
        return whole ? question.answer(course, now) : NOTHING;
    }

    public int image() {
        pictured = 0;
        paintPair(now.year);
        for (int v = 0; v < terms.villages; v++) {
            paintPair(now.harvest[v]);
            paint(now.quarrel[v]);
        }
        for (int p = 0; p < terms.people; p++) {
            paint(now.wits[p]);
            paint(bit(now.place[p] != terms.home[p]));
            paint(now.away[p]);
        }
        paint(check(picture, pictured));
        return pictured;
    }

    private void paintPair(int number) {
        paint(number >> 8 & 255);
        paint(number & 255);
    }

    private void paint(int octet) {
        if (pictured < LONGEST_IMAGE) {
            picture[pictured] = octet;
            pictured++;
        }
    }

    private static int check(int[] row, int length) {
        int c = 199;
        for (int i = 0; i < length && i < row.length; i++) {
            c = (3 * c + row[i]) % 251;
        }
        return c;
    }

    public int octet(int k) {
        return k < 0 || k >= pictured ? NONE : picture[k];
    }

    public boolean on() {
        int length = taped;
        taped = 0;
        if (noTreaty() || !isImage(length)) {
            refuse(REFUSED_STATE);
            return false;
        }
        now.develop(tape, terms);
        past.forget();
        return true;
    }

    private boolean isImage(int length) {
        int due = 3 + 3 * terms.villages + 3 * terms.people;
        if (length != due || check(tape, due - 1) != tape[due - 1] || pairAt(tape, 0) > LAST_YEAR) {
            return false;
        }
        for (int v = 0; v < terms.villages; v++) {
            if (pairAt(tape, 2 + 3 * v) > TOP_HARVEST || tape[4 + 3 * v] > TOP_QUARREL) {
                return false;
            }
        }
        for (int p = 0; p < terms.people; p++) {
            int at = 2 + 3 * terms.villages + 3 * p;
            int mostAway = tape[at + 1] == 0 ? 0 : TOP_AWAY;
            if (tape[at] > TOP_WITS || tape[at + 1] > 1 || tape[at + 2] > mostAway) {
                return false;
            }
        }
        return true;
    }

    /** Two bytes of a row, the higher first; the caller has seen that both are there. */
    private static int pairAt(int[] row, int at) {
        return at < 0 || at + 1 >= row.length ? 0 : row[at] * 256 + row[at + 1];
    }

    public int status(int what) {
        return what < 0 || what >= REFUSALS ? NONE : refused[what];
    }

    /** The words, numbers and signs of the text on the tape, one at a time, and the first fault found in it. */
    private static final class Tokens {
        private final int[] text;
        private int length;
        private int stop;
        int kind;
        int start;
        int word;
        int number;
        int fault;
        int place;

        Tokens(int[] text) {
            this.text = text;
        }

        void open(int bytes) {
            length = Math.max(0, Math.min(bytes, text.length));
            stop = 0;
            kind = KIND_SIGN;
            fault = 0;
            place = NONE;
            next();
        }

        void next() {
            boolean solid = kind == KIND_WORD || kind == KIND_NUMBER;
            int before = stop;
            start = runEnd(stop, true, ' ', ' ');
            word = NONE;
            if (start >= length) {
                stop = length;
                kind = KIND_END;
                return;
            }
            int c = text[start];
            if (c >= 'a' && c <= 'z') {
                stop = runEnd(start, false, 'a', 'z');
                word = wordNumber();
                kind = KIND_WORD;
            } else if (c >= '0' && c <= '9') {
                stop = runEnd(start, false, '0', '9');
                kind = KIND_NUMBER;
            } else {
                stop = start + 1;
                kind = KIND_SIGN;
                return;
            }
            if (solid && start == before) {
                kind = KIND_STRAY;
            }
        }

        /** Where the bytes from low to high, with newlines if these are blanks, end. */
        private int runEnd(int from, boolean blanks, int low, int high) {
            int at = from;
            while (at < length && (text[at] >= low && text[at] <= high || blanks && text[at] == 10)) {
                at++;
            }
            return at;
        }

        private int wordNumber() {
            int found = 0;
            int at = start;
            boolean alike = true;
            for (int i = 0; i < WORDS.length(); i++) {
                char c = WORDS.charAt(i);
                if (c == ' ') {
                    if (alike && at == stop) {
                        return found;
                    }
                    found++;
                    at = start;
                    alike = true;
                } else if (alike && at < stop && text[at] == c) {
                    at++;
                } else {
                    alike = false;
                }
            }
            return NONE;
        }

        boolean isSign(char sign) {
            return kind == KIND_SIGN && text[start] == sign;
        }

        boolean isWord(int wanted) {
            return kind == KIND_WORD && word == wanted;
        }

        boolean fail(int what, int where) {
            fault = what;
            place = where;
            return false;
        }

        /** What stands here can't go on the text. */
        boolean failHere() {
            return fail(FAULT_TEXT, start);
        }

        boolean takeSign(char sign) {
            if (!isSign(sign)) {
                return failHere();
            }
            next();
            return true;
        }

        boolean takeWord(int wanted) {
            if (!isWord(wanted)) {
                return failHere();
            }
            next();
            return true;
        }

        boolean takeNumber(int most) {
            if (kind != KIND_NUMBER) {
                return failHere();
            }
            if (stop - start > MOST_DIGITS) {
                return fail(FAULT_TEXT, start + MOST_DIGITS);
            }
            number = 0;
            for (int i = start; i < stop; i++) {
                number = number * 10 + text[i] - '0';
            }
            if (number > most) {
                return fail(FAULT_NUMBER, start);
            }
            next();
            return true;
        }

        boolean takeWordAndNumber(int wanted, int most) {
            return takeWord(wanted) && takeNumber(most);
        }

        /** Whether a NAME stands here; it is not taken yet. */
        boolean atName() {
            if (kind != KIND_WORD || word >= 0 && word < FIRST) {
                return failHere();
            }
            return stop - start <= MOST_LETTERS || fail(FAULT_TEXT, start + MOST_LETTERS);
        }

        /** Letter k of the word that stands here, 1 .. 26, 0 behind it. */
        int letterHere(int k) {
            int at = start + k;
            return k < 0 || at >= stop ? 0 : text[at] - 'a' + 1;
        }
    }

    /** SUMS and TESTS, read from the left on and written as code. */
    private static final class Grammar {
        private final Tokens tokens;
        private int[] code;
        private int scope;
        private boolean asking;
        int size;

        Grammar(Tokens tokens) {
            this.tokens = tokens;
        }

        void begin(int[] target, int from, int slots, boolean question) {
            code = target;
            size = from;
            scope = slots;
            asking = question;
        }

        private void put(int item) {
            if (code != null && size >= 0 && size < code.length) {
                code[size] = item;
                size++;
            }
        }

        private boolean done(int item) {
            put(item);
            return true;
        }

        /** A TEST; open is how many levels are open around it. */
        boolean readTest(int open) {
            boolean whole = both(open);
            for (int i = 0; i < TAPE && whole && tokens.isWord(OR); i++) {
                tokens.next();
                whole = both(open) && done(SIGN_OR);
            }
            return whole;
        }

        private boolean both(int open) {
            boolean whole = fact(open);
            for (int i = 0; i < TAPE && whole && tokens.isWord(AND); i++) {
                tokens.next();
                whole = fact(open) && done(SIGN_AND);
            }
            return whole;
        }

        private boolean fact(int open) {
            if (tokens.isWord(NOT)) {
                return opens(open) && fact(open + 1) && done(SIGN_NOT);
            }
            if (tokens.isSign('[')) {
                return opens(open) && readTest(open + 1) && tokens.takeSign(']');
            }
            if (tokens.isWord(ALL)) {
                tokens.next();
                return done(1);
            }
            if (!readSum(open)) {
                return false;
            }
            int sign = comparisonHere();
            if (sign == NONE) {
                return tokens.failHere();
            }
            tokens.next();
            return readSum(open) && done(sign);
        }

        private int comparisonHere() {
            if (tokens.isSign('<')) {
                return SIGN_LESS;
            }
            if (tokens.isSign('>')) {
                return SIGN_MORE;
            }
            return tokens.isSign('=') ? SIGN_SAME : NONE;
        }

        /** Takes what opens a level, if there are not too many open. */
        private boolean opens(int open) {
            if (open >= MOST_OPEN) {
                return tokens.fail(FAULT_OPEN, tokens.start);
            }
            tokens.next();
            return true;
        }

        /** A SUM; open is how many levels are open around it. */
        boolean readSum(int open) {
            boolean whole = product(open);
            for (int i = 0; i < TAPE && whole && (tokens.isSign('+') || tokens.isSign('-')); i++) {
                int sign = tokens.isSign('+') ? SIGN_PLUS : SIGN_MINUS;
                tokens.next();
                whole = product(open) && done(sign);
            }
            return whole;
        }

        private boolean product(int open) {
            boolean whole = part(open);
            for (int i = 0; i < TAPE && whole && (tokens.isSign('*') || tokens.isSign('/')); i++) {
                int sign = tokens.isSign('*') ? SIGN_TIMES : SIGN_OVER;
                tokens.next();
                whole = part(open) && done(sign);
            }
            return whole;
        }

        private boolean part(int open) {
            if (tokens.kind == KIND_NUMBER) {
                return tokens.takeNumber(TOP_NUMBER) && done(tokens.number);
            }
            if (tokens.isSign('(')) {
                return opens(open) && readSum(open + 1) && tokens.takeSign(')');
            }
            if (tokens.isWord(MIN) || tokens.isWord(MAX)) {
                int sign = tokens.isWord(MIN) ? SIGN_MIN : SIGN_MAX;
                tokens.next();
                return ofTwo(open) && done(sign);
            }
            if (asking && (tokens.isWord(HARVEST) || tokens.isWord(DOES))) {
                int sign = tokens.isWord(HARVEST) ? SIGN_HARVEST : SIGN_DOES;
                return opens(open) && part(open + 1) && done(sign);
            }
            return slot();
        }

        private boolean ofTwo(int open) {
            if (!tokens.isSign('(')) {
                return tokens.failHere();
            }
            return opens(open) && readSum(open + 1) && tokens.takeSign(',') && readSum(open + 1) && tokens.takeSign(')');
        }

        private boolean slot() {
            int word = tokens.kind == KIND_WORD ? tokens.word : NONE;
            if (word < 0 || word > HOME || (scope >> word & 1) == 0) {
                return tokens.failHere();
            }
            tokens.next();
            return done(SLOT + word);
        }
    }

    /** What a treaty's text tells: it does not change by years or acts. */
    private static final class Treaty {
        private final int[] letters = new int[(VILLAGES + MOST_PEOPLE) * MOST_LETTERS];
        final int[] harvest = new int[VILLAGES];
        final int[] quarrel = new int[VILLAGES];
        final int[] home = new int[MOST_PEOPLE];
        final int[] wits = new int[MOST_PEOPLE];
        final int[] oath = new int[MOST_PEOPLE];
        final int[] cheer = new int[MOST_PEOPLE];
        final int[] code = new int[CODE];
        final int[] from = new int[RULES];
        final int[] to = new int[RULES];
        private int size;
        int villages;
        int people;
        int statements;
        int snow;

        void take(Treaty other) {
            System.arraycopy(other.letters, 0, letters, 0, letters.length);
            System.arraycopy(other.harvest, 0, harvest, 0, VILLAGES);
            System.arraycopy(other.quarrel, 0, quarrel, 0, VILLAGES);
            System.arraycopy(other.home, 0, home, 0, MOST_PEOPLE);
            System.arraycopy(other.wits, 0, wits, 0, MOST_PEOPLE);
            System.arraycopy(other.oath, 0, oath, 0, MOST_PEOPLE);
            System.arraycopy(other.cheer, 0, cheer, 0, MOST_PEOPLE);
            System.arraycopy(other.code, 0, code, 0, CODE);
            System.arraycopy(other.from, 0, from, 0, RULES);
            System.arraycopy(other.to, 0, to, 0, RULES);
            size = other.size;
            villages = other.villages;
            people = other.people;
            statements = other.statements;
            snow = other.snow;
        }

        int letterOf(int name, int k) {
            int at = name * MOST_LETTERS + k;
            return at < 0 || at >= letters.length ? 0 : letters[at];
        }

        /** Whether the text is a treaty; if not, the tokens tell its fault. */
        boolean read(Tokens tokens, Grammar grammar) {
            clear();
            for (int i = 0; i <= MOST_STATEMENTS; i++) {
                if (tokens.kind == KIND_END) {
                    addDefaults();
                    return villages == VILLAGES || tokens.failHere();
                }
                if (i == MOST_STATEMENTS) {
                    return tokens.fail(FAULT_MANY, tokens.start);
                }
                if (!readStatement(tokens, grammar) || !tokens.takeSign(';')) {
                    return false;
                }
                statements++;
            }
            return false;
        }

        private void clear() {
            villages = 0;
            people = 0;
            statements = 0;
            snow = 0;
            size = 0;
            for (int rule = 0; rule < RULES; rule++) {
                from[rule] = NONE;
                to[rule] = NONE;
            }
        }

        private boolean readStatement(Tokens tokens, Grammar grammar) {
            int word = tokens.kind == KIND_WORD ? tokens.word : NONE;
            if ((word == VILLAGE) != (villages < VILLAGES)) {
                return tokens.failHere();
            }
            if (word == VILLAGE) {
                return readVillage(tokens);
            }
            if (word == PERSON) {
                return readPerson(tokens) && readTraits(tokens);
            }
            if (word == SNOW) {
                return readSnow(tokens);
            }
            if (word < SENDS || word > STAYS) {
                return tokens.failHere();
            }
            int rule = word - SENDS;
            return beginRule(tokens, grammar, rule)
                && (isTest(rule) ? grammar.readTest(0) : grammar.readSum(0))
                && endRule(grammar, rule);
        }

        private static boolean isTest(int rule) {
            return rule == RULE_GOOSE || rule == RULE_STAYS;
        }

        private boolean readVillage(Tokens tokens) {
            tokens.next();
            if (!takeNewName(tokens, villages) || !tokens.takeWordAndNumber(HARVEST, TOP_HARVEST)) {
                return false;
            }
            harvest[villages] = tokens.number;
            if (!tokens.takeWordAndNumber(QUARREL, TOP_QUARREL)) {
                return false;
            }
            quarrel[villages] = tokens.number;
            villages++;
            return true;
        }

        private boolean readPerson(Tokens tokens) {
            if (people >= MOST_PEOPLE) {
                return tokens.fail(FAULT_MANY, tokens.start);
            }
            tokens.next();
            if (!takeNewName(tokens, VILLAGES + people) || !tokens.takeWord(OF) || !tokens.atName()) {
                return false;
            }
            home[people] = nameHere(tokens);
            if (home[people] < 0 || home[people] >= VILLAGES) {
                return tokens.fail(FAULT_NAME, tokens.start);
            }
            tokens.next();
            return true;
        }

        private boolean readTraits(Tokens tokens) {
            if (!tokens.takeWordAndNumber(WITS, TOP_WITS)) {
                return false;
            }
            wits[people] = tokens.number;
            if (!tokens.takeWordAndNumber(OATH, TOP_WITS)) {
                return false;
            }
            oath[people] = tokens.number;
            if (!tokens.takeWordAndNumber(CHEER, TOP_WITS)) {
                return false;
            }
            cheer[people] = tokens.number;
            people++;
            return true;
        }

        private boolean readSnow(Tokens tokens) {
            if (!tokens.takeWordAndNumber(SNOW, TOP_SNOW)) {
                return false;
            }
            snow = tokens.number;
            return true;
        }

        private boolean beginRule(Tokens tokens, Grammar grammar, int rule) {
            if (from[rule] != NONE) {
                return tokens.fail(FAULT_MANY, tokens.start);
            }
            tokens.next();
            grammar.begin(code, size, rule == RULE_FIGHTS ? SCOPE_FIGHTS : SCOPE_PERSON, false);
            return true;
        }

        private boolean endRule(Grammar grammar, int rule) {
            from[rule] = size;
            size = grammar.size;
            to[rule] = size;
            return true;
        }

        private boolean takeNewName(Tokens tokens, int name) {
            if (!tokens.atName()) {
                return false;
            }
            if (nameHere(tokens) != NONE) {
                return tokens.fail(FAULT_NAME, tokens.start);
            }
            for (int k = 0; k < MOST_LETTERS; k++) {
                letters[name * MOST_LETTERS + k] = tokens.letterHere(k);
            }
            tokens.next();
            return true;
        }

        /** Which name stands here: a village's number, a person's behind these; NONE for an unknown one. */
        private int nameHere(Tokens tokens) {
            for (int v = 0; v < villages; v++) {
                if (isHere(tokens, v)) {
                    return v;
                }
            }
            for (int p = 0; p < people; p++) {
                if (isHere(tokens, VILLAGES + p)) {
                    return VILLAGES + p;
                }
            }
            return NONE;
        }

        private boolean isHere(Tokens tokens, int name) {
            for (int k = 0; k < MOST_LETTERS; k++) {
                if (letterOf(name, k) != tokens.letterHere(k)) {
                    return false;
                }
            }
            return true;
        }

        private void addDefaults() {
            addDefault(RULE_SENDS, 9, SLOT + WITS, SIGN_MINUS);
            addDefault(RULE_GOOSE, SLOT + WITS, 5, SIGN_LESS);
            addDefault(RULE_DOES, SLOT + WITS, 4, SIGN_MINUS);
            addDefault(RULE_FIGHTS, SLOT + QUARREL, 0, SIGN_PLUS);
            addDefault(RULE_STAYS, 0, 0, SIGN_PLUS);
        }

        private void addDefault(int rule, int one, int other, int sign) {
            if (from[rule] != NONE || size + 3 > CODE) {
                return;
            }
            code[size] = one;
            code[size + 1] = other;
            code[size + 2] = sign;
            from[rule] = size;
            size += 3;
            to[rule] = size;
        }
    }

    /** Works code out, by slots that are filled ahead; a test is 1 if it holds, else 0. */
    private static final class Sums {
        final int[] slots = new int[SLOTS];
        private final int[] stack = new int[STACK];

        int value(int[] code, int from, int to) {
            int top = 0;
            int last = Math.min(to, code.length);
            for (int i = Math.max(0, from); i < last; i++) {
                int item = code[i];
                if (item < SIGNS && top < STACK) {
                    stack[top] = item < SLOT ? item : slotValue(item - SLOT);
                    top++;
                } else if (item >= SIGNS && item < PAIR_SIGNS && top > 0) {
                    stack[top - 1] = ofOne(item, stack[top - 1]);
                } else if (item >= PAIR_SIGNS && top > 1) {
                    top--;
                    stack[top - 1] = ofTwo(item, stack[top - 1], stack[top]);
                }
            }
            return top > 0 ? stack[top - 1] : 0;
        }

        private int slotValue(int slot) {
            return slot < 0 || slot >= SLOTS ? 0 : slots[slot];
        }

        private int ofOne(int sign, int value) {
            if (sign == SIGN_NOT) {
                return value == 0 ? 1 : 0;
            }
            if (value < 0 || value >= VILLAGES) {
                return 0;
            }
            return slots[(sign == SIGN_HARVEST ? HARVEST_AT : DOES_AT) + value];
        }

        private static int ofTwo(int sign, int one, int other) {
            long result = 0L;
            switch (sign) {
                case SIGN_PLUS: result = (long) one + other; break;
                case SIGN_MINUS: result = (long) one - other; break;
                case SIGN_TIMES: result = (long) one * other; break;
                case SIGN_OVER: result = other == 0 ? 0 : Math.floorDiv(one, other); break;
                case SIGN_MIN: result = Math.min(one, other); break;
                case SIGN_MAX: result = Math.max(one, other); break;
                case SIGN_LESS: result = one < other ? 1 : 0; break;
                case SIGN_MORE: result = one > other ? 1 : 0; break;
                case SIGN_SAME: result = one == other ? 1 : 0; break;
                case SIGN_AND: result = one & other; break;
                case SIGN_OR: result = one | other; break;
                default: break;
            }
            return (int) Math.max(-TOP_SUM, Math.min(TOP_SUM, result));
        }
    }

    /** All that years and acts change. */
    private static final class World {
        final int[] harvest = new int[VILLAGES];
        final int[] quarrel = new int[VILLAGES];
        final int[] wits = new int[MOST_PEOPLE];
        final int[] place = new int[MOST_PEOPLE];
        final int[] away = new int[MOST_PEOPLE];
        int year;
        int kept;

        void take(World other) {
            System.arraycopy(other.harvest, 0, harvest, 0, VILLAGES);
            System.arraycopy(other.quarrel, 0, quarrel, 0, VILLAGES);
            System.arraycopy(other.wits, 0, wits, 0, MOST_PEOPLE);
            System.arraycopy(other.place, 0, place, 0, MOST_PEOPLE);
            System.arraycopy(other.away, 0, away, 0, MOST_PEOPLE);
            year = other.year;
            kept = other.kept;
        }

        void begin(Treaty treaty) {
            System.arraycopy(treaty.harvest, 0, harvest, 0, VILLAGES);
            System.arraycopy(treaty.quarrel, 0, quarrel, 0, VILLAGES);
            System.arraycopy(treaty.wits, 0, wits, 0, MOST_PEOPLE);
            System.arraycopy(treaty.home, 0, place, 0, MOST_PEOPLE);
            for (int p = 0; p < MOST_PEOPLE; p++) {
                away[p] = 0;
            }
            year = 0;
            kept = 0;
        }

        /** All is as an image tells; the caller has seen that it is one. */
        void develop(int[] row, Treaty treaty) {
            year = pairAt(row, 0);
            kept = 0;
            for (int v = 0; v < treaty.villages; v++) {
                harvest[v] = pairAt(row, 2 + 3 * v);
                quarrel[v] = row[4 + 3 * v];
            }
            for (int p = 0; p < treaty.people; p++) {
                int at = 2 + 3 * treaty.villages + 3 * p;
                wits[p] = row[at];
                place[p] = row[at + 1] == 0 ? treaty.home[p] : 1 - treaty.home[p];
                away[p] = row[at + 2];
            }
        }

        void cross(int person) {
            place[person] = 1 - place[person];
            away[person] = 0;
        }
    }

    /** How years go by a treaty. */
    private static final class Course {
        private final Treaty treaty;
        private final Sums sums;
        /** Whom the latest year exchanged, NONE each without. */
        final int[] sent = new int[VILLAGES];

        Course(Treaty treaty, Sums sums) {
            this.treaty = treaty;
            this.sums = sums;
        }

        /** A rule's SUM or TEST for a person, as if he lived in the village. */
        int ruled(World world, int rule, int person, int village) {
            int[] slots = sums.slots;
            slots[HARVEST] = world.harvest[village];
            slots[QUARREL] = world.quarrel[village];
            slots[YEAR] = world.year;
            slots[WITS] = world.wits[person];
            slots[OATH] = treaty.oath[person];
            slots[CHEER] = treaty.cheer[person];
            slots[AWAY] = world.away[person];
            return sums.value(treaty.code, treaty.from[rule], treaty.to[rule]);
        }

        int questioned(World world, int[] code, int size, int person) {
            int doesFirst = ruled(world, RULE_DOES, person, 0);
            int doesSecond = ruled(world, RULE_DOES, person, 1);
            int[] slots = sums.slots;
            slots[DOES_AT] = doesFirst;
            slots[DOES_AT + 1] = doesSecond;
            slots[HARVEST_AT] = world.harvest[0];
            slots[HARVEST_AT + 1] = world.harvest[1];
            slots[NUMBER] = person;
            slots[LIVES] = world.place[person];
            slots[HOME] = treaty.home[person];
            return sums.value(code, 0, size);
        }

        int peopleCount() {
            return treaty.people;
        }

        boolean canSend(World world, int person, int village) {
            return treaty.home[person] == village && world.place[person] == village;
        }

        int toSend(World world, int village) {
            int best = NONE;
            int most = 0;
            for (int p = 0; p < treaty.people; p++) {
                if (canSend(world, p, village)) {
                    int sum = ruled(world, RULE_SENDS, p, village);
                    if (best == NONE || sum > most) {
                        best = p;
                        most = sum;
                    }
                }
            }
            return best;
        }

        boolean wouldPass(World world, int person) {
            return person >= 0 && person < treaty.people && ruled(world, RULE_GOOSE, person, world.place[person]) != 0;
        }

        int countAway(World world) {
            int count = 0;
            for (int p = 0; p < treaty.people; p++) {
                count += bit(world.place[p] != treaty.home[p]);
            }
            return count;
        }

        int countPassed(World world) {
            int count = 0;
            for (int p = 0; p < treaty.people; p++) {
                count += bit(wouldPass(world, p));
            }
            return count;
        }

        int countLiving(World world, int village) {
            int count = 0;
            for (int p = 0; p < treaty.people; p++) {
                count += bit(world.place[p] == village);
            }
            return count;
        }

        int countOwn(World world, int village) {
            int count = 0;
            for (int p = 0; p < treaty.people; p++) {
                count += bit(canSend(world, p, village));
            }
            return count;
        }

        void ordinaryYear(World world) {
            spring(world);
            summer(world);
            autumn(world);
            turn(world);
        }

        /** A year in which nobody is SENT. */
        void quietYear(World world) {
            sendNobody();
            summer(world);
            autumn(world);
            turn(world);
        }

        void snowyYear(World world) {
            sendNobody();
            summer(world);
            turn(world);
        }

        private void sendNobody() {
            sent[0] = NONE;
            sent[1] = NONE;
        }

        private void spring(World world) {
            int one = toSend(world, 0);
            int other = toSend(world, 1);
            if (!wouldPass(world, one) || !wouldPass(world, other)) {
                sendNobody();
                return;
            }
            sent[0] = one;
            sent[1] = other;
            world.cross(one);
            world.cross(other);
        }

        private void summer(World world) {
            // Both by the harvests ahead, so neither is written before both are known.
            int first = nextHarvest(world, 0);
            int second = nextHarvest(world, 1);
            world.harvest[0] = first;
            world.harvest[1] = second;
            for (int v = 0; v < VILLAGES; v++) {
                world.quarrel[v] = nextQuarrel(world, v);
            }
        }

        /** The harvest of a village behind the summer, by those who live there now. */
        int nextHarvest(World world, int village) {
            int sum = world.harvest[village];
            for (int p = 0; p < treaty.people; p++) {
                if (world.place[p] == village) {
                    sum += ruled(world, RULE_DOES, p, village);
                }
            }
            return Math.max(0, Math.min(TOP_HARVEST, sum));
        }

        private int nextQuarrel(World world, int village) {
            int[] slots = sums.slots;
            slots[HARVEST] = world.harvest[village];
            slots[QUARREL] = world.quarrel[village];
            slots[YEAR] = world.year;
            slots[GUESTS] = countLiving(world, village) - countOwn(world, village);
            int sum = sums.value(treaty.code, treaty.from[RULE_FIGHTS], treaty.to[RULE_FIGHTS]);
            return Math.max(0, Math.min(TOP_QUARREL, sum));
        }

        private void autumn(World world) {
            for (int p = 0; p < treaty.people; p++) {
                if (world.place[p] == treaty.home[p]) {
                    continue;
                }
                if (ruled(world, RULE_STAYS, p, world.place[p]) != 0) {
                    world.away[p] = Math.min(TOP_AWAY, world.away[p] + 1);
                } else {
                    world.cross(p);
                }
            }
        }

        private static void turn(World world) {
            world.year = Math.min(LAST_YEAR, world.year + 1);
        }
    }

    /** What was: years as they were kept, and the worlds ahead of the latest acts. */
    private static final class Past {
        private final World[] worlds = new World[UNDOABLE];
        private final int[] keptYear = new int[LAST_YEAR + 1];
        private final int[] keptOne = new int[LAST_YEAR + 1];
        private final int[] keptOther = new int[LAST_YEAR + 1];
        private int oldest;
        int acts;

        Past() {
            for (int i = 0; i < UNDOABLE; i++) {
                worlds[i] = new World();
            }
        }

        void forget() {
            acts = 0;
            oldest = 0;
        }

        void remember(World world) {
            worlds[(oldest + acts) % UNDOABLE].take(world);
            if (acts < UNDOABLE) {
                acts++;
            } else {
                oldest = (oldest + 1) % UNDOABLE;
            }
        }

        boolean recall(World world) {
            if (acts < 1) {
                return false;
            }
            acts--;
            world.take(worlds[(oldest + acts) % UNDOABLE]);
            return true;
        }

        /** All years stay here, not the told ones alone: by undo() older ones are told again. */
        void keep(World world, int year, int[] sent) {
            int at = world.kept;
            if (at < 0 || at > LAST_YEAR) {
                return;
            }
            keptYear[at] = year;
            keptOne[at] = sent[0];
            keptOther[at] = sent[1];
            world.kept++;
        }

        int toldCount(World world) {
            return Math.min(TOLD_KEPT, world.kept);
        }

        int toldOf(World world, int k, int what) {
            int told = toldCount(world);
            if (k < 0 || k >= told) {
                return NONE;
            }
            int at = world.kept - told + k;
            switch (what) {
                case 0: return keptYear[at];
                case 1: return keptOne[at];
                case 2: return keptOther[at];
                default: return NONE;
            }
        }
    }

    /** Told pairs: what they gain, a bargain, one at rest. */
    private static final class Pairs {
        private final Treaty treaty;
        private final Course course;
        private final World scratch = new World();
        private final int[] harvests = new int[MOST_PEOPLE * MOST_PEOPLE * VILLAGES];
        final int[] found = new int[VILLAGES];
        int less;

        Pairs(Treaty treaty, Course course) {
            this.treaty = treaty;
            this.course = course;
        }

        private boolean isPair(World world, int one, int other) {
            return course.canSend(world, one, 0) && course.canSend(world, other, 1);
        }

        private int harvestBy(World world, int one, int other, int village) {
            scratch.take(world);
            scratch.cross(one);
            scratch.cross(other);
            return course.nextHarvest(scratch, village);
        }

        int gainOf(World world, int one, int other, int village) {
            return harvestBy(world, one, other, village) - course.nextHarvest(world, village);
        }

        private static int cell(int one, int other, int village) {
            return (one * MOST_PEOPLE + other) * VILLAGES + village;
        }

        private void fillHarvests(World world) {
            for (int one = 0; one < treaty.people; one++) {
                for (int other = 0; other < treaty.people; other++) {
                    if (isPair(world, one, other)) {
                        harvests[cell(one, other, 0)] = harvestBy(world, one, other, 0);
                        harvests[cell(one, other, 1)] = harvestBy(world, one, other, 1);
                    }
                }
            }
        }

        boolean findBargain(World world) {
            fillHarvests(world);
            int first = course.nextHarvest(world, 0);
            int second = course.nextHarvest(world, 1);
            less = 0;
            for (int one = 0; one < treaty.people; one++) {
                for (int other = 0; other < treaty.people; other++) {
                    int least = Math.min(harvests[cell(one, other, 0)] - first, harvests[cell(one, other, 1)] - second);
                    if (isPair(world, one, other) && least > less) {
                        less = least;
                        choose(one, other);
                    }
                }
            }
            return less > 0;
        }

        private void choose(int one, int other) {
            found[0] = one;
            found[1] = other;
        }

        boolean findRest(World world) {
            fillHarvests(world);
            for (int one = 0; one < treaty.people; one++) {
                for (int other = 0; other < treaty.people; other++) {
                    if (isPair(world, one, other) && rests(world, one, other)) {
                        choose(one, other);
                        return true;
                    }
                }
            }
            return false;
        }

        private boolean rests(World world, int one, int other) {
            for (int p = 0; p < treaty.people; p++) {
                if (course.canSend(world, p, 0) && harvests[cell(p, other, 0)] > harvests[cell(one, other, 0)]) {
                    return false;
                }
                if (course.canSend(world, p, 1) && harvests[cell(one, p, 1)] > harvests[cell(one, other, 1)]) {
                    return false;
                }
            }
            return true;
        }
    }

    /** The fewest questions that tell fools from the clever. */
    private static final class Exam {
        static final int LONGEST = 3;
        private static final int NUMBERS = 9;
        private static final int ALL_QUESTIONS = 27;
        private final Treaty treaty;
        private final Course course;
        /** Of each question the pairs, one PASSED and one not, that answer it unlike: a bit each. */
        private final long[] parts = new long[ALL_QUESTIONS];
        private final int[] chosen = new int[LONGEST];
        private long due;
        int count;

        Exam(Treaty treaty, Course course) {
            this.treaty = treaty;
            this.course = course;
        }

        /** Question k as it is told: 10 times its kind and its number. */
        int told(int k) {
            return k < 0 || k >= count ? NONE : chosen[k] / NUMBERS * 10 + chosen[k] % NUMBERS + 1;
        }

        boolean find(World world) {
            fillParts(world);
            for (count = 0; count <= LONGEST; count++) {
                if (search(0, 0, 0L)) {
                    return true;
                }
            }
            return false;
        }

        private void fillParts(World world) {
            due = 0L;
            for (int q = 0; q < ALL_QUESTIONS; q++) {
                parts[q] = 0L;
            }
            int passed = 0;
            for (int p = 0; p < treaty.people; p++) {
                passed |= bit(course.wouldPass(world, p)) << p;
            }
            for (int p = 0; p < treaty.people; p++) {
                for (int r = 0; r < treaty.people; r++) {
                    if ((passed >> p & 1) != 0 && (passed >> r & 1) == 0) {
                        addPair(world, p, r);
                    }
                }
            }
        }

        private void addPair(World world, int p, int r) {
            long pair = 1L << p * MOST_PEOPLE + r;
            due |= pair;
            for (int q = 0; q < ALL_QUESTIONS; q++) {
                if (answer(world, p, q) != answer(world, r, q)) {
                    parts[q] |= pair;
                }
            }
        }

        private boolean answer(World world, int person, int question) {
            int number = question % NUMBERS + 1;
            switch (question / NUMBERS) {
                case 0: return world.wits[person] < number;
                case 1: return treaty.oath[person] < number;
                default: return treaty.cheer[person] < number;
            }
        }

        /** Chooses the questions from place on, none below the one told, so that all due pairs are parted. */
        private boolean search(int place, int lowest, long parted) {
            if (place >= count || place >= LONGEST) {
                return parted == due;
            }
            for (int q = lowest; q < ALL_QUESTIONS; q++) {
                chosen[place] = q;
                if (search(place + 1, q + 1, parted | parts[q])) {
                    return true;
                }
            }
            return false;
        }
    }

    /** What one's wits can be by harvests seen, and which harvest would tell most. */
    private static final class Sight {
        private final Course course;
        private final World scratch = new World();
        private final int[] seen = new int[SEEN_ROWS * ROW_BYTES];
        private final int[] harvests = new int[WITS_KINDS * (SEEN_AHEAD + 1) * VILLAGES];
        /** The YEAR AHEAD, the VILLAGE, how many are left at the most. */
        final int[] telling = new int[3];
        int rows;

        Sight(Course course) {
            this.course = course;
        }

        void forget() {
            rows = 0;
        }

        boolean look(int[] row, int length) {
            if (length < ROW_BYTES || length > seen.length || length % ROW_BYTES != 0) {
                return false;
            }
            for (int at = 0; at < length; at += ROW_BYTES) {
                if (row[at] > SEEN_AHEAD || row[at + 1] >= VILLAGES || pairAt(row, at + 2) > TOP_HARVEST) {
                    return false;
                }
            }
            System.arraycopy(row, 0, seen, 0, length);
            rows = length / ROW_BYTES;
            return true;
        }

        private static int cell(int wits, int ahead, int village) {
            return (wits * (SEEN_AHEAD + 1) + ahead) * VILLAGES + village;
        }

        int farthestSeen() {
            int farthest = 0;
            for (int i = 0; i < rows; i++) {
                farthest = Math.max(farthest, seen[i * ROW_BYTES]);
            }
            return farthest;
        }

        private static int farthestYear(World world) {
            return Math.min(SEEN_AHEAD, LAST_YEAR - world.year);
        }

        /** Harvests up to a YEAR AHEAD, as far as there are YEARS, by each wits that the person might have. */
        void foresee(World world, int person, int wanted) {
            int farthest = Math.min(wanted, farthestYear(world));
            for (int w = 0; w < WITS_KINDS; w++) {
                scratch.take(world);
                scratch.wits[person] = w;
                for (int ahead = 0; ahead <= farthest; ahead++) {
                    harvests[cell(w, ahead, 0)] = scratch.harvest[0];
                    harvests[cell(w, ahead, 1)] = scratch.harvest[1];
                    if (ahead < farthest) {
                        course.ordinaryYear(scratch);
                    }
                }
            }
        }

        /** The wits, a bit each, by which all is as SEEN; foresee() has gone as far as that. */
        int possible(World world) {
            if (farthestSeen() > farthestYear(world)) {
                return 0;
            }
            int bits = 0;
            for (int w = 0; w < WITS_KINDS; w++) {
                bits |= bit(fits(w)) << w;
            }
            return bits;
        }

        private boolean fits(int wits) {
            for (int i = 0; i < rows; i++) {
                int at = i * ROW_BYTES;
                if (harvests[cell(wits, seen[at], seen[at + 1])] != pairAt(seen, at + 2)) {
                    return false;
                }
            }
            return true;
        }

        /** Whether a YEAR AHEAD tells most; foresee() has gone as far as it can. */
        boolean findTelling(World world) {
            int bits = possible(world);
            int farthest = farthestYear(world);
            if (bits == 0 || farthest < 1) {
                return false;
            }
            telling[2] = WITS_KINDS + 1;
            for (int ahead = 1; ahead <= farthest; ahead++) {
                for (int v = 0; v < VILLAGES; v++) {
                    int left = mostLeft(bits, ahead, v);
                    if (left < telling[2]) {
                        telling[0] = ahead;
                        telling[1] = v;
                        telling[2] = left;
                    }
                }
            }
            return true;
        }

        private int mostLeft(int bits, int ahead, int village) {
            int most = 0;
            for (int w = 0; w < WITS_KINDS; w++) {
                if ((bits >> w & 1) != 0) {
                    most = Math.max(most, countAlike(bits, ahead, village, harvests[cell(w, ahead, village)]));
                }
            }
            return most;
        }

        private int countAlike(int bits, int ahead, int village, int harvest) {
            int alike = 0;
            for (int w = 0; w < WITS_KINDS; w++) {
                if ((bits >> w & 1) != 0 && harvests[cell(w, ahead, village)] == harvest) {
                    alike++;
                }
            }
            return alike;
        }
    }

    /** A question of all people. */
    private static final class Question {
        private final int[] code = new int[CODE];
        private int size;
        private int verb;

        boolean read(Tokens tokens, Grammar grammar) {
            verb = tokens.kind == KIND_WORD ? tokens.word : NONE;
            if (verb < FIRST || verb > LEAST) {
                return tokens.failHere();
            }
            tokens.next();
            grammar.begin(code, 0, SCOPE_QUESTION, true);
            boolean whole = verb <= OFTEN ? grammar.readTest(0) : grammar.readSum(0);
            size = grammar.size;
            return whole && (tokens.kind == KIND_END || tokens.failHere());
        }

        long answer(Course course, World world) {
            long result = verb == FIRST || verb == LAST ? NONE : 0;
            for (int p = 0; p < course.peopleCount(); p++) {
                int value = course.questioned(world, code, size, p);
                result = p == 0 && verb > TOTAL ? value : joined(result, value, p);
            }
            return result;
        }

        private long joined(long before, int value, int person) {
            switch (verb) {
                case FIRST: return before == NONE && value != 0 ? person : before;
                case LAST: return value != 0 ? person : before;
                case OFTEN:
                case TOTAL: return before + value;
                case MOST: return Math.max(before, value);
                default: return Math.min(before, value);
            }
        }
    }
}
