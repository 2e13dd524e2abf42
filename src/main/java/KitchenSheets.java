/**
 * Sheets of answers that were asked at doors, or made at a kitchen table.
 * What each call promises stands in ../shared/DOC.md; its words (TRAY, LAND, SHEET ..) are used here too.
 *
 * A row of ANSWERS is held packed in one int, two bits for each QUESTION, QUESTION 0 in the highest ones,
 * so that the order of the ints is the order "by QUESTIONS, the lesser ANSWER ahead".
 */
public final class KitchenSheets {
    public static final int NONE = -1;

    private static final int MOST_TAPE = 700;
    private static final int MOST_RULES_TEXT = 300;
    private static final int MOST_TRAYS = 4;
    private static final int MOST_NUMBERS = 60;
    private static final int MOST_QUESTIONS = 6;
    private static final int MOST_ANSWERS = 4;
    private static final int MOST_DOORS = 16;
    private static final int MOST_SHEETS = 16;
    private static final int MOST_ASKERS = 4;
    private static final int MOST_RULES = 4;
    private static final int MOST_TESTS = 40;
    private static final int MOST_WITHIN = 8;
    private static final int MOST_MARKS = 3;
    private static final int MOST_COIN = 999;
    private static final int LAST_MINUTE = 1439;
    private static final int LAST_CORNER = 99;
    private static final int SIXTEEN = 16;
    private static final int TOP_SHIFT = 2 * (MOST_QUESTIONS - 1);
    private static final int UNLIKE_BITS = 0x555;

    private static final int FAULT_TOKEN = 1;
    private static final int FAULT_STAND = 2;
    private static final int FAULT_NAME = 3;
    private static final int FAULT_NUMBER = 4;
    private static final int FAULT_AGAIN = 5;
    private static final int FAULT_WITHIN = 5;
    private static final int FAULT_TOO_MANY = 6;
    private static final int FAULT_TOO_FEW = 7;
    private static final int FAULT_ROW = 8;

    private static final int UNKNOWN = 0;
    private static final int ASKED = 1;
    private static final int MADE = 2;
    private static final int HALF_MADE = 3;

    // A WORD of up to eight letters is one long, a byte for each letter, the last one lowest.
    private static final long ASK = 0x61736bL;
    private static final long LAW = 0x6c6177L;
    private static final long MIND = 0x6d696e64L;
    private static final long BY = 0x6279L;
    private static final long DOOR = 0x646f6f72L;
    private static final long WALK = 0x77616c6bL;
    private static final long CARDS = 0x6361726473L;
    private static final long FLAG = 0x666c6167L;
    private static final long OR = 0x6f72L;
    private static final long AND = 0x616e64L;
    private static final long NOT = 0x6e6f74L;
    private static final long SAME = 0x73616d65L;
    private static final long SHORT = 0x73686f7274L;
    private static final long LATE = 0x6c617465L;
    private static final long RARE = 0x72617265L;
    private static final long MADE_WORD = 0x6d616465L;
    private static final long CARD = 0x63617264L;
    private static final long AMISS = 0x616d697373L;

    // What a step of a RULE's code does; a TEST's NUMBER stands above these four bits.
    private static final int STEP_SAME = 1;
    private static final int STEP_SHORT = 2;
    private static final int STEP_LATE = 3;
    private static final int STEP_RARE = 4;
    private static final int STEP_MADE = 5;
    private static final int STEP_CARD = 6;
    private static final int STEP_AMISS = 7;
    private static final int STEP_NOT = 8;
    private static final int STEP_AND = 9;
    private static final int STEP_OR = 10;

    private final Tray[] trays = new Tray[MOST_TRAYS];
    private final Tokens tokens = new Tokens();
    private final LandReader landReader = new LandReader(tokens);
    private final RulesReader rulesReader = new RulesReader(tokens);
    private final State now = new State();
    private final State[] marks = new State[MOST_MARKS];
    private final Hours hours = new Hours(now);
    private final Judge judge = new Judge(now);
    private final Checks checks = new Checks(now);
    private Land spareLand = new Land();
    private Rules spareRules = new Rules();
    private int status;
    private long top;
    private long bottom = 1;
    private int markCount;
    private boolean wasRead;
    private int hiddenAnswers;
    private int hiddenQuestions = NONE;
    private int foundSum = NONE;

    public KitchenSheets() {
        for (int i = 0; i < MOST_TRAYS; i++) {
            trays[i] = new Tray();
        }
        for (int i = 0; i < MOST_MARKS; i++) {
            marks[i] = new State();
        }
    }

    public int status() {
        return status;
    }

    public long top() {
        return top;
    }

    public long bottom() {
        return bottom;
    }

    // ---- TRAYS.

    public boolean tray(int tray, int sort, int many) {
        if (!isTray(tray) || !within(sort, 0, 3) || !within(many, 0, MOST_NUMBERS)) {
            return deny(1);
        }
        trays[tray].lay(sort, many);
        return agree();
    }

    public boolean write(int tray, int place, long v) {
        int why = whyNoPlace(tray, place);
        if (why != 0) {
            return deny(why);
        }
        trays[tray].put(place, v);
        return agree();
    }

    public long read(int tray, int place) {
        int why = whyNoPlace(tray, place);
        if (why != 0) {
            return refuse(why);
        }
        status = 0;
        return trays[tray].numbers[place];
    }

    public boolean pour(int from, int place, int to, int at, int many) {
        if (!isTray(from) || !isTray(to) || place < 0 || at < 0 || many < 0) {
            return deny(1);
        }
        Tray source = trays[from];
        Tray target = trays[to];
        if (source.isMissing() || target.isMissing()) {
            return deny(2);
        }
        if (source.sort != target.sort) {
            return deny(8);
        }
        if (many > source.many - place || many > target.many - at) {
            return deny(3);
        }
        System.arraycopy(source.numbers, place, target.numbers, at, many);
        return agree();
    }

    // ---- the LAND.

    public int feed(int a, int b, int c, int d, int e) {
        if (tokens.fed > MOST_TAPE - 20) {
            return NONE;
        }
        tokens.feedInt(a);
        tokens.feedInt(b);
        tokens.feedInt(c);
        tokens.feedInt(d);
        tokens.feedInt(e);
        return tokens.fed;
    }

    public int land(int n) {
        if (!within(n, 0, tokens.fed)) {
            return refuse(1);
        }
        wasRead = true;
        if (!landReader.take(spareLand, n)) {
            return refuse(9);
        }
        Land old = now.land;
        now.land = spareLand;
        spareLand = old;
        now.count = 0;
        return answer(now.land.questions);
    }

    public int rules(int n) {
        if (!within(n, 0, tokens.fed) || n > MOST_RULES_TEXT) {
            return refuse(1);
        }
        wasRead = true;
        if (!rulesReader.take(spareRules, n)) {
            return refuse(9);
        }
        Rules old = now.rules;
        now.rules = spareRules;
        spareRules = old;
        return answer(now.rules.count);
    }

    public int fault(int what) {
        if (!wasRead || !within(what, 0, 1)) {
            return NONE;
        }
        return what == 0 ? tokens.faultKind : tokens.faultPlace;
    }

    public int told(int what) {
        Land land = now.land;
        switch (what) {
            case 0: return answer(land.questions);
            case 1: return answer(land.doors);
            case 2: return answer(now.count);
            case 3: return answer(now.rules.count);
            case 4: return answer(land.walk);
            case 5: return answer(land.askedSayYes);
            case 6: return answer(land.madeSayYes);
            default: return refuse(1);
        }
    }

    public int question(int question, int what) {
        if (!isQuestion(question) || !within(what, 0, 2)) {
            return refuse(1);
        }
        Land land = now.land;
        if (what == 0) {
            return answer(land.choices[question]);
        }
        int by = (what == 1 ? land.law : land.mind).by[question];
        return by == NONE ? refuse(6) : answer(by);
    }

    public int weight(int question, boolean mind, int row, int answer) {
        if (!isAnswer(question, answer)) {
            return refuse(1);
        }
        Table table = mind ? now.land.mind : now.land.law;
        if (!within(row, 0, now.land.rowsOf(table, question) - 1)) {
            return refuse(1);
        }
        return answer(table.weights[placeOf(question, row, answer)]);
    }

    // ---- SHEETS.

    public int sheet(int tray) {
        if (!isTray(tray)) {
            return refuse(1);
        }
        Tray source = trays[tray];
        if (source.isMissing()) {
            return refuse(2);
        }
        if (source.many < 4 + now.land.questions) {
            return refuse(3);
        }
        if (!now.couldAdd(source.numbers)) {
            return refuse(5);
        }
        if (now.count >= MOST_SHEETS) {
            return refuse(4);
        }
        return answer(now.add(source.numbers));
    }

    public int look(int sheet, int what) {
        if (!isSheet(sheet) || !within(what, 0, 6 + now.land.questions)) {
            return refuse(1);
        }
        switch (what) {
            case 0: return answer(now.asker[sheet]);
            case 1: return answer(now.door[sheet]);
            case 2: return answer(now.from[sheet]);
            case 3: return answer(now.to[sheet]);
            case 4: return answer(now.card[sheet]);
            case 5: return answer(now.truth[sheet]);
            case 6: return now.truth[sheet] == HALF_MADE ? answer(now.madeFrom[sheet]) : refuse(6);
            default: return answer(answerIn(now.answers[sheet], what - 7));
        }
    }

    public boolean alter(int sheet, int question, int answer) {
        if (!isSheet(sheet) || !isAnswer(question, answer)) {
            return deny(1);
        }
        now.answers[sheet] = withAnswer(now.answers[sheet], question, answer);
        now.truth[sheet] = UNKNOWN;
        return agree();
    }

    public boolean card(int sheet, int said) {
        if (!isSheet(sheet) || !within(said, 0, 2)) {
            return deny(1);
        }
        now.card[sheet] = said;
        return agree();
    }

    // ---- ODDS.

    public int sheetWeight(int sheet, boolean mind) {
        if (!isSheet(sheet)) {
            return refuse(1);
        }
        return answer(now.land.product(mind ? 0 : MOST_QUESTIONS, now.answers[sheet]));
    }

    public boolean odds(int sheet, int share) {
        if (!isSheet(sheet) || !within(share, 0, SIXTEEN)) {
            return deny(1);
        }
        long made = now.madeSide(sheet, now.answers[sheet], share);
        long both = made + now.askedSide(sheet, now.answers[sheet], share);
        return both == 0 ? deny(6) : tell(made, both);
    }

    public boolean half(int sheet, int from) {
        if (!isSheet(sheet) || !within(from, 0, now.land.questions)) {
            return deny(1);
        }
        long all = 0;
        for (int k = 0; k <= now.land.questions; k++) {
            all += now.land.product(k, now.answers[sheet]);
        }
        return all == 0 ? deny(6) : tell(now.land.product(from, now.answers[sheet]), all);
    }

    // ---- hours.

    public int way(int a, int b) {
        if (!isDoor(a) || !isDoor(b)) {
            return refuse(1);
        }
        return answer(now.land.minutesBetween(a, b));
    }

    public int walked(int asker) {
        return isAsker(asker) ? answer(hours.longestWalk(asker)) : refuse(1);
    }

    public int amiss(int asker) {
        if (!isAsker(asker)) {
            return refuse(1);
        }
        int couples = 0;
        for (int i = 0; i < now.count; i++) {
            for (int j = 0; j < i; j++) {
                if (now.asker[i] == asker && now.areAmiss(i, j)) {
                    couples++;
                }
            }
        }
        return answer(couples);
    }

    // ---- together.

    public int group(int asker, int d, int what) {
        if (!isAsker(asker) || !within(d, 0, MOST_QUESTIONS) || !within(what, 0, 1)) {
            return refuse(1);
        }
        int most = 0;
        int first = NONE;
        for (int i = 0; i < now.count; i++) {
            int alike = now.asker[i] == asker ? now.countAlike(i, d) : 0;
            if (alike > most) {
                most = alike;
                first = i;
            }
        }
        if (first == NONE) {
            return refuse(6);
        }
        return answer(what == 0 ? most : first);
    }

    public boolean twins() {
        return tell(sumOfSquares(now.land, 0, 0, 1), 1L << (8 * now.land.questions));
    }

    public boolean strange(int t) {
        if (!within(t, 0, 99999999)) {
            return deny(1);
        }
        return tell(sumBelow(now.land, 0, 0, 1, t), 1L << (4 * now.land.questions));
    }

    public boolean goes(int asker, int q, int r) {
        if (!isAsker(asker) || !isQuestion(q) || !isQuestion(r) || q == r) {
            return deny(1);
        }
        int couples = 0;
        int both = 0;
        for (int i = 0; i < now.count; i++) {
            for (int j = 0; j < i; j++) {
                if (now.asker[i] == asker && now.asker[j] == asker && now.sameAnswer(i, j, q)) {
                    couples++;
                    both += now.sameAnswer(i, j, r) ? 1 : 0;
                }
            }
        }
        return couples == 0 ? deny(6) : tell(both, couples);
    }

    public boolean number(int question, int answer, int set) {
        if (!isAnswer(question, answer) || set < 0 || (set >>> now.count) != 0) {
            return deny(1);
        }
        if (set == 0) {
            return deny(6);
        }
        return tell(now.countWith(question, answer, set), Integer.bitCount(set));
    }

    public boolean bounds(int question, int answer, int left, boolean most) {
        if (!isAnswer(question, answer) || !within(left, 0, now.count - 1)) {
            return deny(1);
        }
        int with = now.countWith(question, answer, (1 << now.count) - 1);
        int rest = now.count - left;
        return tell(most ? Math.min(with, rest) : Math.max(with - left, 0), rest);
    }

    public int unlike(int asker) {
        if (!isAsker(asker)) {
            return refuse(1);
        }
        int rows = 0;
        for (int i = 0; i < now.count; i++) {
            if (now.asker[i] == asker && !now.isRepeated(i)) {
                rows++;
            }
        }
        return answer(rows);
    }

    public int doubtful(int share, int of) {
        if (!within(share, 0, SIXTEEN) || !within(of, 0, SIXTEEN)) {
            return refuse(1);
        }
        int set = 0;
        for (int i = 0; i < now.count; i++) {
            long made = now.madeSide(i, now.answers[i], share);
            long asked = now.askedSide(i, now.answers[i], share);
            if (partMade(made, asked, SIXTEEN) >= of) {
                set |= 1 << i;
            }
        }
        return answer(set);
    }

    // ---- RULES.

    public int flagged(int rule) {
        return isRule(rule) ? answer(judge.flaggedSet(rule)) : refuse(1);
    }

    public int hides(int rule, int sheet) {
        if (!isRule(rule) || !isSheet(sheet)) {
            return refuse(1);
        }
        int nearest = judge.nearestHidden(rule, sheet);
        if (nearest == NONE) {
            return refuse(6);
        }
        hiddenAnswers = nearest;
        hiddenQuestions = now.land.questions;
        return answer(unlikeAnswers(nearest, now.answers[sheet]));
    }

    public int hidden(int question) {
        if (hiddenQuestions == NONE) {
            return refuse(6);
        }
        if (!within(question, 0, hiddenQuestions - 1)) {
            return refuse(1);
        }
        return answer(answerIn(hiddenAnswers, question));
    }

    public int worth(int minute, int risk, int fine) {
        if (!within(minute, 0, 99) || !within(risk, 0, SIXTEEN) || !within(fine, 0, 9999)) {
            return refuse(1);
        }
        return answer(hours.worthSet(minute, risk * fine));
    }

    public int deters(int minute, int fine) {
        if (!within(minute, 0, 99) || !within(fine, 0, 9999)) {
            return refuse(1);
        }
        for (int risk = 0; risk <= SIXTEEN; risk++) {
            if (hours.worthSet(minute, risk * fine) == 0) {
                return answer(risk);
            }
        }
        return refuse(6);
    }

    public int checked(int coin, int share) {
        if (!within(coin, 0, MOST_COIN) || !within(share, 0, SIXTEEN)) {
            return refuse(1);
        }
        checks.choose(coin, share);
        foundSum = checks.sums[coin];
        return answer(checks.sets[coin]);
    }

    public int found() {
        return foundSum == NONE ? refuse(6) : answer(foundSum);
    }

    // ---- WORLDS.

    public int world(int seed, int share, int half) {
        if (!within(seed, 0, 9999) || !within(share, 0, SIXTEEN) || !within(half, 0, SIXTEEN - share)) {
            return refuse(1);
        }
        return answer(now.drawWorld(seed, share, half));
    }

    public int score(int rule, int what) {
        if (!isRule(rule) || !within(what, 0, 2)) {
            return refuse(1);
        }
        int flags = judge.flaggedSet(rule);
        int unasked = now.setOfTruth(MADE) | now.setOfTruth(HALF_MADE);
        switch (what) {
            case 0: return answer(Integer.bitCount(flags & unasked));
            case 1: return answer(Integer.bitCount(flags & now.setOfTruth(ASKED)));
            default: return answer(Integer.bitCount(~flags & unasked));
        }
    }

    // ---- MARKS.

    public int mark() {
        if (markCount >= MOST_MARKS) {
            return refuse(4);
        }
        marks[markCount].copyFrom(now);
        markCount++;
        return answer(markCount);
    }

    public int back() {
        if (markCount <= 0) {
            return refuse(6);
        }
        markCount--;
        now.copyFrom(marks[markCount]);
        return answer(markCount);
    }

    // ---- how a call ends, and what it asks first

    private int refuse(int why) {
        status = why;
        return NONE;
    }

    private boolean deny(int why) {
        status = why;
        return false;
    }

    private int answer(int value) {
        status = 0;
        return value;
    }

    private boolean agree() {
        status = 0;
        return true;
    }

    private boolean tell(long part, long whole) {
        long divisor = commonDivisor(part, whole);
        if (divisor > 0) {
            top = part / divisor;
            bottom = whole / divisor;
        }
        return agree();
    }

    private int whyNoPlace(int tray, int place) {
        if (!isTray(tray)) {
            return 1;
        }
        if (trays[tray].isMissing()) {
            return 2;
        }
        return within(place, 0, trays[tray].many - 1) ? 0 : 3;
    }

    private boolean isTray(int tray) {
        return within(tray, 0, MOST_TRAYS - 1);
    }

    private boolean isQuestion(int question) {
        return within(question, 0, now.land.questions - 1);
    }

    private boolean isAnswer(int question, int answer) {
        return isQuestion(question) && within(answer, 0, now.land.choices[question] - 1);
    }

    private boolean isDoor(int door) {
        return within(door, 0, now.land.doors - 1);
    }

    private boolean isSheet(int sheet) {
        return within(sheet, 0, now.count - 1);
    }

    private boolean isRule(int rule) {
        return within(rule, 0, now.rules.count - 1);
    }

    private static boolean isAsker(int asker) {
        return within(asker, 0, MOST_ASKERS - 1);
    }

    private static boolean within(long number, long least, long most) {
        return number >= least && number <= most;
    }

    private static long commonDivisor(long a, long b) {
        long larger = a;
        long smaller = b;
        for (int i = 0; i < 200 && smaller != 0; i++) {
            long rest = larger % smaller;
            larger = smaller;
            smaller = rest;
        }
        return larger;
    }

    /** So many parts of ODDS, rounded down; NONE if there are no ODDS. */
    private static long partMade(long made, long asked, int parts) {
        long both = made + asked;
        return both <= 0 ? NONE : made * parts / both;
    }

    // ---- sums over all rows of ANSWERS, QUESTION by QUESTION; what weighs nothing so far is left out

    private static long sumOfSquares(Land land, int question, int answers, long weight) {
        if (question >= land.questions || weight == 0) {
            return weight * weight;
        }
        long sum = 0;
        for (int a = 0; a < land.choices[question]; a++) {
            int row = withAnswer(answers, question, a);
            sum += sumOfSquares(land, question + 1, row, weight * land.law.weightIn(row, question));
        }
        return sum;
    }

    private static long sumBelow(Land land, int question, int answers, long weight, int below) {
        if (question >= land.questions || weight == 0) {
            return weight < below ? weight : 0;
        }
        long sum = 0;
        for (int a = 0; a < land.choices[question]; a++) {
            int row = withAnswer(answers, question, a);
            sum += sumBelow(land, question + 1, row, weight * land.law.weightIn(row, question), below);
        }
        return sum;
    }

    // ---- packed rows of ANSWERS

    private static int answerIn(int answers, int question) {
        return answers >> (TOP_SHIFT - 2 * question) & 3;
    }

    private static int withAnswer(int answers, int question, int answer) {
        int shift = TOP_SHIFT - 2 * question;
        return (answers & ~(3 << shift)) | (answer << shift);
    }

    private static int unlikeAnswers(int a, int b) {
        int unlikeBits = a ^ b;
        return Integer.bitCount((unlikeBits | (unlikeBits >> 1)) & UNLIKE_BITS);
    }

    private static int placeOf(int question, int row, int answer) {
        return (question * MOST_ANSWERS + row) * MOST_ANSWERS + answer;
    }

    /** One TRAY; its numbers are held as they are after the cut to its sort. */
    private static final class Tray {
        int sort = NONE;
        int many;
        final long[] numbers = new long[MOST_NUMBERS];

        boolean isMissing() {
            return sort == NONE;
        }

        void lay(int newSort, int newMany) {
            sort = newSort;
            many = newMany;
            for (int i = 0; i < MOST_NUMBERS; i++) {
                numbers[i] = 0;
            }
        }

        void put(int place, long v) {
            switch (sort) {
                case 0: numbers[place] = (byte) v; break;
                case 1: numbers[place] = (short) v; break;
                case 2: numbers[place] = (int) v; break;
                default: numbers[place] = v; break;
            }
        }
    }

    /** The tape, and the TOKEN of it at which a reader stands; the first FAULT that is told stays. */
    private static final class Tokens {
        private static final int END = 0;
        private static final int WORD = 1;
        private static final int NUMBER = 2;
        private static final int SIGN = 3;
        private static final int BAD = 4;

        final byte[] text = new byte[MOST_TAPE];
        int fed;
        int faultKind;
        int faultPlace = NONE;
        long word;
        private int number;
        private int kind;
        private int place;
        private int next;
        private int end;

        void feedInt(int bytes) {
            for (int shift = 24; shift >= 0 && fed < MOST_TAPE; shift -= 8) {
                text[fed] = (byte) (bytes >> shift);
                fed++;
            }
        }

        /** Begins to read so many bytes; the tape is empty then, but its bytes stay until they are read. */
        void start(int length) {
            end = length;
            next = 0;
            fed = 0;
            faultKind = 0;
            faultPlace = NONE;
            advance();
        }

        boolean isSound() {
            return faultKind == 0;
        }

        boolean hasMore() {
            return isSound() && kind != END;
        }

        boolean isNumber() {
            return kind == NUMBER;
        }

        boolean isSign(char sign) {
            return kind == SIGN && number == sign;
        }

        void fail(int fault) {
            if (faultKind == 0) {
                faultKind = kind == BAD ? FAULT_TOKEN : fault;
                faultPlace = place;
            }
        }

        void advance() {
            while (next < end && (text[next] == 10 || text[next] == 32)) {
                next++;
            }
            place = next;
            word = 0;
            number = 0;
            if (next >= end) {
                kind = END;
            } else if (text[next] >= 'a' && text[next] <= 'z') {
                takeWord();
            } else if (text[next] >= '0' && text[next] <= '9') {
                takeNumber();
            } else {
                number = text[next];
                kind = number == ';' || number == '(' || number == ')' ? SIGN : BAD;
                next++;
            }
        }

        // A WORD of nine letters and more is none that a reader knows, and no NAME: it counts as 0.
        private void takeWord() {
            kind = WORD;
            while (next < end && text[next] >= 'a' && text[next] <= 'z') {
                word = (word << 8) | text[next];
                next++;
            }
            if (next - place > 8) {
                word = 0;
            }
        }

        private void takeNumber() {
            while (next < end && text[next] >= '0' && text[next] <= '9') {
                number = next - place < 4 ? number * 10 + text[next] - '0' : number;
                next++;
            }
            kind = next - place > 4 ? BAD : NUMBER;
        }

        /** The NUMBER that stands here, which is not passed by; a FAULT if it is none, or can't be. */
        int numberWithin(int least, int most) {
            if (kind != NUMBER) {
                fail(FAULT_STAND);
            } else if (number < least || number > most) {
                fail(FAULT_NUMBER);
            }
            return number;
        }

        int takeNumberWithin(int least, int most) {
            int taken = numberWithin(least, most);
            advance();
            return taken;
        }

        void takeSign(char sign) {
            if (!isSign(sign)) {
                fail(FAULT_STAND);
            }
            advance();
        }
    }

    /** The LAW or the MIND: of each QUESTION by which one it goes, and its WEIGHTS. */
    private static final class Table {
        final int[] by = new int[MOST_QUESTIONS];
        final boolean[] isTold = new boolean[MOST_QUESTIONS];
        final int[] weights = new int[MOST_QUESTIONS * MOST_ANSWERS * MOST_ANSWERS];

        void clear() {
            for (int q = 0; q < MOST_QUESTIONS; q++) {
                by[q] = NONE;
                isTold[q] = false;
            }
        }

        void copyFrom(Table other) {
            System.arraycopy(other.by, 0, by, 0, by.length);
            System.arraycopy(other.weights, 0, weights, 0, weights.length);
        }

        int weightIn(int answers, int question) {
            int row = by[question] == NONE ? 0 : answerIn(answers, by[question]);
            return weights[placeOf(question, row, answerIn(answers, question))];
        }

        void shareOut(int question, int choices) {
            for (int a = 0; a < choices; a++) {
                weights[placeOf(question, 0, a)] = SIXTEEN / choices + (a < SIXTEEN % choices ? 1 : 0);
            }
        }

        /** The first ANSWER with which the WEIGHTS of its row up to it are more than a draw. */
        int drawnAnswer(int answers, int question, int choices, int draw) {
            int row = by[question] == NONE ? 0 : answerIn(answers, by[question]);
            int together = 0;
            for (int a = 0; a < choices; a++) {
                together += weights[placeOf(question, row, a)];
                if (together > draw) {
                    return a;
                }
            }
            return choices - 1;
        }
    }

    /** A LAND: QUESTIONS with LAW and MIND, DOORS, WALK and CARDS. */
    private static final class Land {
        int questions;
        final long[] names = new long[MOST_QUESTIONS];
        final int[] choices = new int[MOST_QUESTIONS];
        final Table law = new Table();
        final Table mind = new Table();
        int doors;
        final int[] doorX = new int[MOST_DOORS];
        final int[] doorY = new int[MOST_DOORS];
        int walk = 10;
        int askedSayYes = 14;
        int madeSayYes = 2;

        void clear() {
            questions = 0;
            doors = 0;
            walk = 10;
            askedSayYes = 14;
            madeSayYes = 2;
            law.clear();
            mind.clear();
        }

        /** Keeps what a LAND answers by; names serve only while its text is read. */
        void copyFrom(Land other) {
            questions = other.questions;
            doors = other.doors;
            walk = other.walk;
            askedSayYes = other.askedSayYes;
            madeSayYes = other.madeSayYes;
            law.copyFrom(other.law);
            mind.copyFrom(other.mind);
            System.arraycopy(other.choices, 0, choices, 0, choices.length);
            System.arraycopy(other.doorX, 0, doorX, 0, doorX.length);
            System.arraycopy(other.doorY, 0, doorY, 0, doorY.length);
        }

        int find(long name) {
            for (int q = 0; q < questions; q++) {
                if (names[q] == name) {
                    return q;
                }
            }
            return NONE;
        }

        void shareOutUntold() {
            for (int q = 0; q < questions; q++) {
                if (!law.isTold[q]) {
                    law.shareOut(q, choices[q]);
                }
                if (!mind.isTold[q]) {
                    mind.shareOut(q, choices[q]);
                }
            }
        }

        int rowsOf(Table table, int question) {
            int by = table.by[question];
            return by == NONE ? 1 : choices[by];
        }

        /** The LAW's WEIGHTS ahead of a QUESTION, the MIND's from it on, times one another. */
        int product(int mindFrom, int answers) {
            int product = 1;
            for (int q = 0; q < questions; q++) {
                product *= (q < mindFrom ? law : mind).weightIn(answers, q);
            }
            return product;
        }

        int cardWeight(int said, int sayYes) {
            if (said == 0) {
                return SIXTEEN;
            }
            return said == 1 ? sayYes : SIXTEEN - sayYes;
        }

        int stepsBetween(int a, int b) {
            return Math.abs(doorX[a] - doorX[b]) + Math.abs(doorY[a] - doorY[b]);
        }

        int minutesBetween(int a, int b) {
            return (stepsBetween(a, b) * walk + 9) / 10;
        }
    }

    /** Reads a LAND's text, PART by PART. After a FAULT what is read counts no more. */
    private static final class LandReader {
        private final Tokens tokens;
        private boolean walkIsTold;
        private boolean cardsAreTold;

        LandReader(Tokens tokens) {
            this.tokens = tokens;
        }

        boolean take(Land land, int length) {
            land.clear();
            walkIsTold = false;
            cardsAreTold = false;
            tokens.start(length);
            for (int part = 0; part < MOST_TAPE && tokens.hasMore(); part++) {
                long word = tokens.word;
                if (word == ASK) {
                    takeAsk(land);
                } else if (word == LAW) {
                    takeTable(land, land.law);
                } else if (word == MIND) {
                    takeTable(land, land.mind);
                } else if (word == DOOR) {
                    takeDoor(land);
                } else if (word == WALK) {
                    takeWalk(land);
                } else if (word == CARDS) {
                    takeCards(land);
                } else {
                    tokens.fail(FAULT_STAND);
                }
            }
            land.shareOutUntold();
            return tokens.isSound();
        }

        private void takeAsk(Land land) {
            if (land.questions >= MOST_QUESTIONS) {
                tokens.fail(FAULT_TOO_MANY);
                return;
            }
            tokens.advance();
            long name = tokens.word;
            if (!isName(name)) {
                tokens.fail(FAULT_STAND);
            } else if (land.find(name) != NONE) {
                tokens.fail(FAULT_NAME);
            }
            tokens.advance();
            int choices = tokens.takeNumberWithin(2, MOST_ANSWERS);
            tokens.takeSign(';');
            if (tokens.isSound()) {
                land.names[land.questions] = name;
                land.choices[land.questions] = choices;
                land.questions++;
            }
        }

        private void takeTable(Land land, Table table) {
            tokens.advance();
            int question = knownName(land, land.questions);
            if (question == NONE) {
                return;
            }
            if (table.isTold[question]) {
                tokens.fail(FAULT_AGAIN);
                return;
            }
            table.isTold[question] = true;
            tokens.advance();
            if (tokens.word == BY) {
                tokens.advance();
                table.by[question] = knownName(land, question);
                tokens.advance();
            }
            if (tokens.isSound()) {
                takeWeights(table, question, land.choices[question], land.rowsOf(table, question));
            }
        }

        /** The QUESTION of the NAME that stands here, if it is one of the first so many; else NONE, and a FAULT. */
        private int knownName(Land land, int many) {
            if (!isName(tokens.word)) {
                tokens.fail(FAULT_STAND);
                return NONE;
            }
            int question = land.find(tokens.word);
            if (question == NONE || question >= many) {
                tokens.fail(FAULT_NAME);
                return NONE;
            }
            return question;
        }

        private static boolean isName(long word) {
            return word != 0 && word != ASK && word != LAW && word != MIND && word != BY
                && word != DOOR && word != WALK && word != CARDS;
        }

        private void takeWeights(Table table, int question, int choices, int rows) {
            for (int row = 0; row < rows; row++) {
                int together = 0;
                for (int a = 0; a < choices && tokens.isSound(); a++) {
                    if (tokens.isSign(';') && row + a > 0) {
                        tokens.fail(FAULT_TOO_FEW);
                    }
                    int weight = tokens.numberWithin(0, SIXTEEN);
                    together += weight;
                    if (a == choices - 1 && together != SIXTEEN) {
                        tokens.fail(FAULT_ROW);
                    }
                    table.weights[placeOf(question, row, a)] = weight;
                    tokens.advance();
                }
            }
            if (tokens.isNumber()) {
                tokens.numberWithin(0, SIXTEEN);
                tokens.fail(FAULT_TOO_MANY);
            }
            tokens.takeSign(';');
        }

        private void takeDoor(Land land) {
            if (land.doors >= MOST_DOORS) {
                tokens.fail(FAULT_TOO_MANY);
                return;
            }
            tokens.advance();
            land.doorX[land.doors] = tokens.takeNumberWithin(0, LAST_CORNER);
            land.doorY[land.doors] = tokens.takeNumberWithin(0, LAST_CORNER);
            land.doors++;
            tokens.takeSign(';');
        }

        private void takeWalk(Land land) {
            if (walkIsTold) {
                tokens.fail(FAULT_AGAIN);
            }
            walkIsTold = true;
            tokens.advance();
            land.walk = tokens.takeNumberWithin(1, 99);
            tokens.takeSign(';');
        }

        private void takeCards(Land land) {
            if (cardsAreTold) {
                tokens.fail(FAULT_AGAIN);
            }
            cardsAreTold = true;
            tokens.advance();
            land.askedSayYes = tokens.takeNumberWithin(0, SIXTEEN);
            land.madeSayYes = tokens.takeNumberWithin(0, SIXTEEN);
            tokens.takeSign(';');
        }
    }

    /** RULES as code: of each RULE the steps that work out, one behind the other, whether it flags. */
    private static final class Rules {
        int count;
        int length;
        final int[] starts = new int[MOST_RULES + 1];
        final int[] code = new int[MOST_RULES_TEXT];

        void clear() {
            count = 0;
            length = 0;
        }

        void copyFrom(Rules other) {
            count = other.count;
            length = other.length;
            System.arraycopy(other.starts, 0, starts, 0, starts.length);
            System.arraycopy(other.code, 0, code, 0, length);
        }

        void addStep(int step, int number) {
            if (length < MOST_RULES_TEXT) {
                code[length] = (number << 4) | step;
                length++;
            }
        }

        void endRule() {
            if (count < MOST_RULES) {
                count++;
                starts[count] = length;
            }
        }

        /** Whether a RULE has a TEST whose outcome other ANSWERS can change. */
        boolean goesByAnswers(int rule) {
            for (int i = starts[rule]; i < starts[rule + 1]; i++) {
                int step = code[i] & 15;
                if (step == STEP_SAME || step == STEP_RARE || step == STEP_MADE) {
                    return true;
                }
            }
            return false;
        }
    }

    /** Reads a text of RULES. */
    private static final class RulesReader {
        private final Tokens tokens;
        private int tests;

        RulesReader(Tokens tokens) {
            this.tokens = tokens;
        }

        boolean take(Rules rules, int length) {
            rules.clear();
            tests = 0;
            tokens.start(length);
            for (int i = 0; i < MOST_RULES_TEXT && tokens.hasMore(); i++) {
                if (tokens.word != FLAG) {
                    tokens.fail(FAULT_STAND);
                } else if (rules.count >= MOST_RULES) {
                    tokens.fail(FAULT_TOO_MANY);
                } else {
                    tokens.advance();
                    takeTerms(rules, 0);
                    tokens.takeSign(';');
                    rules.endRule();
                }
            }
            return tokens.isSound();
        }

        private void takeTerms(Rules rules, int within) {
            takeTerm(rules, within);
            for (int i = 0; i < MOST_RULES_TEXT && tokens.isSound() && tokens.word == OR; i++) {
                tokens.advance();
                takeTerm(rules, within);
                rules.addStep(STEP_OR, 0);
            }
        }

        private void takeTerm(Rules rules, int within) {
            takeTest(rules, within);
            for (int i = 0; i < MOST_RULES_TEXT && tokens.isSound() && tokens.word == AND; i++) {
                tokens.advance();
                takeTest(rules, within);
                rules.addStep(STEP_AND, 0);
            }
        }

        private void takeTest(Rules rules, int within) {
            int inner = within;
            while (inner < MOST_WITHIN && tokens.word == NOT) {
                tokens.advance();
                inner++;
            }
            int step = stepOf(tokens.word);
            if (step == 0 && !tokens.isSign('(')) {
                tokens.fail(FAULT_STAND);
            } else if (inner >= MOST_WITHIN) {
                tokens.fail(FAULT_WITHIN);
            } else if (step == 0) {
                tokens.advance();
                takeTerms(rules, inner + 1);
                tokens.takeSign(')');
            } else if (tests >= MOST_TESTS) {
                tokens.fail(FAULT_TOO_MANY);
            } else {
                tests++;
                tokens.advance();
                rules.addStep(step, step == STEP_AMISS ? 0 : tokens.takeNumberWithin(0, mostOf(step)));
            }
            for (int i = within; i < inner; i++) {
                rules.addStep(STEP_NOT, 0);
            }
        }

        private static int mostOf(int step) {
            switch (step) {
                case STEP_MADE: return SIXTEEN;
                case STEP_CARD: return 2;
                default: return 9999;
            }
        }

        private static int stepOf(long word) {
            if (word == NOT) {
                return STEP_NOT;
            }
            if (word == SAME) {
                return STEP_SAME;
            }
            if (word == SHORT) {
                return STEP_SHORT;
            }
            if (word == LATE) {
                return STEP_LATE;
            }
            if (word == RARE) {
                return STEP_RARE;
            }
            if (word == MADE_WORD) {
                return STEP_MADE;
            }
            if (word == CARD) {
                return STEP_CARD;
            }
            return word == AMISS ? STEP_AMISS : 0;
        }
    }

    /** All that a MARK keeps: LAND, RULES, and the SHEETS with CARDS and TRUTH. */
    private static final class State {
        Land land = new Land();
        Rules rules = new Rules();
        int count;
        final int[] asker = new int[MOST_SHEETS];
        final int[] door = new int[MOST_SHEETS];
        final int[] from = new int[MOST_SHEETS];
        final int[] to = new int[MOST_SHEETS];
        final int[] answers = new int[MOST_SHEETS];
        final int[] card = new int[MOST_SHEETS];
        final int[] truth = new int[MOST_SHEETS];
        final int[] madeFrom = new int[MOST_SHEETS];
        private int seed;

        void copyFrom(State other) {
            land.copyFrom(other.land);
            rules.copyFrom(other.rules);
            count = other.count;
            System.arraycopy(other.asker, 0, asker, 0, count);
            System.arraycopy(other.door, 0, door, 0, count);
            System.arraycopy(other.from, 0, from, 0, count);
            System.arraycopy(other.to, 0, to, 0, count);
            System.arraycopy(other.answers, 0, answers, 0, count);
            System.arraycopy(other.card, 0, card, 0, count);
            System.arraycopy(other.truth, 0, truth, 0, count);
            System.arraycopy(other.madeFrom, 0, madeFrom, 0, count);
        }

        // The numbers of a TRAY: ASKER, DOOR, two minutes, an ANSWER for each QUESTION.
        boolean couldAdd(long[] numbers) {
            boolean could = within(numbers[0], 0, MOST_ASKERS - 1)
                && within(numbers[1], 0, land.doors - 1)
                && within(numbers[2], 0, LAST_MINUTE)
                && within(numbers[3], numbers[2] + 1, LAST_MINUTE);
            for (int q = 0; q < land.questions && could; q++) {
                could = within(numbers[4 + q], 0, land.choices[q] - 1);
            }
            return could;
        }

        int add(long[] numbers) {
            int sheet = count;
            asker[sheet] = (int) numbers[0];
            door[sheet] = (int) numbers[1];
            from[sheet] = (int) numbers[2];
            to[sheet] = (int) numbers[3];
            card[sheet] = 0;
            truth[sheet] = UNKNOWN;
            answers[sheet] = 0;
            for (int q = 0; q < land.questions; q++) {
                answers[sheet] = withAnswer(answers[sheet], q, (int) numbers[4 + q]);
            }
            count++;
            return sheet;
        }

        boolean sameAnswer(int i, int j, int question) {
            return answerIn(answers[i], question) == answerIn(answers[j], question);
        }

        int countAlike(int sheet, int d) {
            int alike = 0;
            for (int i = 0; i < count; i++) {
                if (asker[i] == asker[sheet] && unlikeAnswers(answers[i], answers[sheet]) <= d) {
                    alike++;
                }
            }
            return alike;
        }

        boolean isRepeated(int sheet) {
            for (int i = 0; i < sheet; i++) {
                if (asker[i] == asker[sheet] && answers[i] == answers[sheet]) {
                    return true;
                }
            }
            return false;
        }

        int countWith(int question, int answer, int set) {
            int with = 0;
            for (int i = 0; i < count; i++) {
                if (((set >> i) & 1) == 1 && answerIn(answers[i], question) == answer) {
                    with++;
                }
            }
            return with;
        }

        /** What stands for MADE in the ODDS of a SHEET, if it had these ANSWERS. */
        long madeSide(int sheet, int row, int share) {
            return (long) share * land.product(0, row) * land.cardWeight(card[sheet], land.madeSayYes);
        }

        long askedSide(int sheet, int row, int share) {
            long weight = land.product(MOST_QUESTIONS, row);
            return (SIXTEEN - share) * weight * land.cardWeight(card[sheet], land.askedSayYes);
        }

        boolean isAhead(int i, int j) {
            return from[i] < from[j] || (from[i] == from[j] && i < j);
        }

        boolean fits(int later, int earlier) {
            return from[later] >= to[earlier] + land.minutesBetween(door[earlier], door[later]);
        }

        boolean areAmiss(int i, int j) {
            if (i == j || asker[i] != asker[j]) {
                return false;
            }
            return isAhead(i, j) ? !fits(j, i) : !fits(i, j);
        }

        int setOfTruth(int kind) {
            int set = 0;
            for (int i = 0; i < count; i++) {
                if (truth[i] == kind) {
                    set |= 1 << i;
                }
            }
            return set;
        }

        /** Draws all SHEETS anew: how many are ASKED. */
        int drawWorld(int firstSeed, int share, int half) {
            seed = firstSeed;
            int asked = 0;
            for (int i = 0; i < count; i++) {
                int kind = draw(SIXTEEN);
                int mindFrom = MOST_QUESTIONS;
                truth[i] = ASKED;
                if (kind < share) {
                    truth[i] = MADE;
                    mindFrom = 0;
                } else if (kind < share + half) {
                    truth[i] = HALF_MADE;
                    mindFrom = land.questions == 0 ? 0 : draw(land.questions);
                } else {
                    asked++;
                }
                madeFrom[i] = mindFrom;
                answers[i] = drawAnswers(mindFrom);
            }
            return asked;
        }

        private int drawAnswers(int mindFrom) {
            int row = 0;
            for (int q = 0; q < land.questions; q++) {
                Table table = q < mindFrom ? land.law : land.mind;
                row = withAnswer(row, q, table.drawnAnswer(row, q, land.choices[q], draw(SIXTEEN)));
            }
            return row;
        }

        private int draw(int n) {
            seed = (seed * 2053 + 13849) % 65536;
            return n <= 0 ? 0 : seed / 8 % n;
        }
    }

    /** The hours of an ASKER: what can be walked, and what making a SHEET saves. */
    private static final class Hours {
        private final State state;
        private final int[] inOrder = new int[MOST_SHEETS];
        private final int[] longest = new int[MOST_SHEETS];

        Hours(State state) {
            this.state = state;
        }

        private int putInOrder(int asker) {
            int many = 0;
            for (int i = 0; i < state.count; i++) {
                if (state.asker[i] == asker) {
                    int at = many;
                    while (at > 0 && state.isAhead(i, inOrder[at - 1])) {
                        inOrder[at] = inOrder[at - 1];
                        at--;
                    }
                    inOrder[at] = i;
                    many++;
                }
            }
            return many;
        }

        /** WALKED: each step takes the first SHEET in ORDER from which the rest of a longest walk goes on. */
        int longestWalk(int asker) {
            int many = putInOrder(asker);
            int wanted = measureWalks(many);
            int set = 0;
            int last = NONE;
            for (int i = 0; i < many; i++) {
                if (longest[i] == wanted && (last == NONE || state.fits(inOrder[i], last))) {
                    last = inOrder[i];
                    set |= 1 << last;
                    wanted--;
                }
            }
            return set;
        }

        // Of each SHEET in ORDER the most SHEETS of a walk that begins with it; the answer is the most of all.
        private int measureWalks(int many) {
            int most = 0;
            for (int i = many - 1; i >= 0; i--) {
                longest[i] = 1;
                for (int j = i + 1; j < many; j++) {
                    if (longest[j] >= longest[i] && state.fits(inOrder[j], inOrder[i])) {
                        longest[i] = longest[j] + 1;
                    }
                }
                most = Math.max(most, longest[i]);
            }
            return most;
        }

        /** The SHEETS whose minutes, at such a worth of a minute, are more than a loss. */
        int worthSet(int minute, int loss) {
            int set = 0;
            for (int asker = 0; asker < MOST_ASKERS; asker++) {
                int many = putInOrder(asker);
                for (int i = 0; i < many; i++) {
                    int sheet = inOrder[i];
                    int spent = state.to[sheet] - state.from[sheet];
                    if (i > 0) {
                        spent += state.land.minutesBetween(state.door[inOrder[i - 1]], state.door[sheet]);
                    }
                    if (spent * SIXTEEN * minute > loss) {
                        set |= 1 << sheet;
                    }
                }
            }
            return set;
        }
    }

    /** Works out whether a RULE flags a SHEET, as it is or with other ANSWERS. */
    private static final class Judge {
        private final State state;
        private int sheet;
        private int took;
        private int end;
        private int card;
        private boolean isAmiss;
        private int same;
        private int law;
        private long made;

        Judge(State state) {
            this.state = state;
        }

        int flaggedSet(int rule) {
            int set = 0;
            for (int i = 0; i < state.count; i++) {
                view(i);
                suppose(state.answers[i]);
                if (flags(rule)) {
                    set |= 1 << i;
                }
            }
            return set;
        }

        /** The row of ANSWERS by which a SHEET HIDES; NONE if no row does. */
        int nearestHidden(int rule, int viewed) {
            view(viewed);
            int most = state.rules.goesByAnswers(rule) ? state.land.questions : 0;
            for (int others = 0; others <= most; others++) {
                int row = search(this, rule, 0, 0, others);
                if (row != NONE) {
                    return row;
                }
            }
            return NONE;
        }

        // The first row with so many other ANSWERS from a QUESTION on that is not flagged; NONE if there is none.
        private static int search(Judge judge, int rule, int question, int row, int others) {
            Land land = judge.state.land;
            int rest = land.questions - question;
            if (others < 0 || others > rest) {
                return NONE;
            }
            if (rest <= 0) {
                judge.suppose(row);
                return judge.flags(rule) ? NONE : row;
            }
            int own = answerIn(judge.state.answers[judge.sheet], question);
            for (int a = 0; a < land.choices[question]; a++) {
                int left = a == own ? others : others - 1;
                int hiding = search(judge, rule, question + 1, withAnswer(row, question, a), left);
                if (hiding != NONE) {
                    return hiding;
                }
            }
            return NONE;
        }

        // What does not go by the ANSWERS of the SHEET.
        private void view(int viewed) {
            sheet = viewed;
            took = state.to[sheet] - state.from[sheet];
            end = state.to[sheet];
            card = state.card[sheet];
            isAmiss = false;
            for (int i = 0; i < state.count && !isAmiss; i++) {
                isAmiss = state.areAmiss(i, sheet);
            }
        }

        // What goes by its ANSWERS, if they were these.
        private void suppose(int row) {
            same = 0;
            for (int i = 0; i < state.count; i++) {
                if (i != sheet && state.asker[i] == state.asker[sheet] && state.answers[i] == row) {
                    same++;
                }
            }
            law = state.land.product(MOST_QUESTIONS, row);
            made = partMade(state.madeSide(sheet, row, 8), state.askedSide(sheet, row, 8), SIXTEEN);
        }

        // Outcomes that still wait stand as bits, the latest one lowest; eight levels need less than twenty.
        private boolean flags(int rule) {
            Rules rules = state.rules;
            long outcomes = 0;
            for (int i = rules.starts[rule]; i < rules.starts[rule + 1]; i++) {
                int step = rules.code[i] & 15;
                if (step == STEP_NOT) {
                    outcomes ^= 1;
                } else if (step == STEP_AND) {
                    outcomes = (outcomes & 1) == 1 ? outcomes >> 1 : (outcomes >> 1) & ~1L;
                } else if (step == STEP_OR) {
                    outcomes = (outcomes >> 1) | (outcomes & 1);
                } else {
                    outcomes = (outcomes << 1) | (holds(step, rules.code[i] >> 4) ? 1 : 0);
                }
            }
            return (outcomes & 1) == 1;
        }

        private boolean holds(int step, int number) {
            switch (step) {
                case STEP_SAME: return same >= number;
                case STEP_SHORT: return took < number;
                case STEP_LATE: return end > number;
                case STEP_RARE: return law < number;
                case STEP_MADE: return made >= number;
                case STEP_CARD: return card == number;
                default: return isAmiss;
            }
        }
    }

    /** CHECKED: of each sum of coins the greatest sum of worths that it pays for, and the least set with it. */
    private static final class Checks {
        private final State state;
        final int[] sums = new int[MOST_COIN + 1];
        final int[] sets = new int[MOST_COIN + 1];

        Checks(State state) {
            this.state = state;
        }

        // SHEET by SHEET, so that a set with a later SHEET, which is no less, comes in only for a greater sum.
        void choose(int coin, int share) {
            for (int c = 0; c <= coin; c++) {
                sums[c] = 0;
                sets[c] = 0;
            }
            for (int i = 0; i < state.count; i++) {
                long made = state.madeSide(i, state.answers[i], share);
                long asked = state.askedSide(i, state.answers[i], share);
                int worth = Math.max((int) partMade(made, asked, 4096), 0);
                int cost = state.land.stepsBetween(0, state.door[i]) + 1;
                for (int c = coin; c >= cost; c--) {
                    if (sums[c - cost] + worth > sums[c]) {
                        sums[c] = sums[c - cost] + worth;
                        sets[c] = sets[c - cost] | 1 << i;
                    }
                }
            }
        }
    }
}
