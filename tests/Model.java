import java.math.BigInteger;
import java.util.ArrayList;
import java.util.Arrays;
import java.util.List;

/**
 * The document once more, written as plainly as can be and apart from the program: lists, brute force, exceptions.
 * Answers: a refused call answers null and sets status; a FRACTION sets top and bottom.
 */
final class Model {
    static final class Fault extends RuntimeException {
        final int kind;
        final int place;

        Fault(int kind, int place) {
            this.kind = kind;
            this.place = place;
        }
    }

    static final class Refused extends RuntimeException {
        final int status;

        Refused(int status) {
            this.status = status;
        }
    }

    static final class Question implements Cloneable {
        String name;
        int many;
        int lawBy = -1;
        int mindBy = -1;
        int[][] law;
        int[][] mind;
    }

    static final class Land {
        final List<Question> questions = new ArrayList<>();
        final List<int[]> doors = new ArrayList<>();
        int walk = 10;
        int yesAsked = 14;
        int yesMade = 2;

        Question named(String name) {
            for (Question q : questions) {
                if (q.name.equals(name)) {
                    return q;
                }
            }
            return null;
        }
    }

    static final class Sheet {
        int asker;
        int door;
        int from;
        int to;
        int card;
        int truth;
        int half;
        int[] answers;

        Sheet copy() {
            Sheet s = new Sheet();
            s.asker = asker;
            s.door = door;
            s.from = from;
            s.to = to;
            s.card = card;
            s.truth = truth;
            s.half = half;
            s.answers = answers.clone();
            return s;
        }
    }

    interface Test {
        boolean holds(Sheet s);
    }

    static final class Kept {
        Land land;
        List<Sheet> sheets;
        List<Test> rules;
    }

    int status;
    BigInteger top = BigInteger.ZERO;
    BigInteger bottom = BigInteger.ONE;
    final long[][] trays = new long[4][];
    final int[] sorts = new int[4];
    String tape = "";
    Land land = new Land();
    List<Sheet> sheets = new ArrayList<>();
    List<Test> rules = new ArrayList<>();
    final List<Kept> marks = new ArrayList<>();
    int faultKind = -1;
    int faultPlace = -1;
    int[] hidden;
    int found = -1;

    // ---- texts

    static final class Token {
        final char kind;
        final String text;
        final int place;

        Token(char kind, String text, int place) {
            this.kind = kind;
            this.text = text;
            this.place = place;
        }

        int number() {
            return Integer.parseInt(text);
        }

        boolean is(String t) {
            return text.equals(t);
        }
    }

    static final class Text {
        final List<Token> tokens = new ArrayList<>();
        int at;

        Text(String s) {
            int i = 0;
            while (i < s.length()) {
                char c = s.charAt(i);
                int j = i + 1;
                if (c == ' ' || c == '\n') {
                    i++;
                    continue;
                }
                char kind = 'x';
                if (c >= 'a' && c <= 'z') {
                    while (j < s.length() && s.charAt(j) >= 'a' && s.charAt(j) <= 'z') {
                        j++;
                    }
                    kind = 'w';
                } else if (c >= '0' && c <= '9') {
                    while (j < s.length() && s.charAt(j) >= '0' && s.charAt(j) <= '9') {
                        j++;
                    }
                    kind = j - i <= 4 ? 'n' : 'x';
                } else if (c == ';' || c == '(' || c == ')') {
                    kind = 's';
                }
                tokens.add(new Token(kind, s.substring(i, j), i));
                i = j;
            }
            tokens.add(new Token('e', "", s.length()));
        }

        /** The token here; none begins so is told before anything else of it. */
        Token see() {
            Token t = tokens.get(at);
            if (t.kind == 'x') {
                throw new Fault(1, t.place);
            }
            return t;
        }

        Token pass() {
            Token t = see();
            at++;
            return t;
        }

        Token pass(String sign) {
            Token t = see();
            if (!t.is(sign)) {
                throw new Fault(2, t.place);
            }
            at++;
            return t;
        }

        Token name() {
            Token t = see();
            List<String> kept = Arrays.asList("ask", "law", "mind", "by", "door", "walk", "cards");
            if (t.kind != 'w' || t.text.length() > 8 || kept.contains(t.text)) {
                throw new Fault(2, t.place);
            }
            at++;
            return t;
        }

        int number(int least, int most) {
            Token t = see();
            if (t.kind != 'n') {
                throw new Fault(2, t.place);
            }
            if (t.number() < least || t.number() > most) {
                throw new Fault(4, t.place);
            }
            at++;
            return t.number();
        }
    }

    static Land readLand(String s) {
        Text t = new Text(s);
        Land land = new Land();
        boolean walk = false;
        boolean cards = false;
        while (t.see().kind != 'e') {
            Token part = t.pass();
            switch (part.text) {
                case "ask": {
                    if (land.questions.size() == 6) {
                        throw new Fault(6, part.place);
                    }
                    Token name = t.name();
                    if (land.named(name.text) != null) {
                        throw new Fault(3, name.place);
                    }
                    Question q = new Question();
                    q.name = name.text;
                    q.many = t.number(2, 4);
                    t.pass(";");
                    land.questions.add(q);
                    break;
                }
                case "law":
                case "mind":
                    readRows(t, land, part.is("mind"));
                    break;
                case "door": {
                    if (land.doors.size() == 16) {
                        throw new Fault(6, part.place);
                    }
                    int x = t.number(0, 99);
                    land.doors.add(new int[] {x, t.number(0, 99)});
                    t.pass(";");
                    break;
                }
                case "walk":
                    if (walk) {
                        throw new Fault(5, part.place);
                    }
                    walk = true;
                    land.walk = t.number(1, 99);
                    t.pass(";");
                    break;
                case "cards":
                    if (cards) {
                        throw new Fault(5, part.place);
                    }
                    cards = true;
                    land.yesAsked = t.number(0, 16);
                    land.yesMade = t.number(0, 16);
                    t.pass(";");
                    break;
                default:
                    throw new Fault(2, part.place);
            }
        }
        for (Question q : land.questions) {
            int[] even = new int[q.many];
            for (int i = 0; i < 16; i++) {
                even[i % q.many]++;
            }
            q.law = q.law == null ? new int[][] {even} : q.law;
            q.mind = q.mind == null ? new int[][] {even} : q.mind;
        }
        return land;
    }

    static void readRows(Text t, Land land, boolean mind) {
        Token name = t.name();
        Question q = land.named(name.text);
        if (q == null) {
            throw new Fault(3, name.place);
        }
        if ((mind ? q.mind : q.law) != null) {
            throw new Fault(5, name.place);
        }
        int by = -1;
        if (t.see().is("by")) {
            t.pass();
            Token other = t.name();
            by = land.questions.indexOf(land.named(other.text));
            if (by < 0 || by >= land.questions.indexOf(q)) {
                throw new Fault(3, other.place);
            }
        }
        int rows = by < 0 ? 1 : land.questions.get(by).many;
        List<Integer> weights = new ArrayList<>();
        int sum = 0;
        while (weights.isEmpty() || t.see().kind == 'n') {
            int place = t.see().place;
            int w = t.number(0, 16);
            if (weights.size() == rows * q.many) {
                throw new Fault(6, place);
            }
            weights.add(w);
            sum += w;
            if (weights.size() % q.many == 0) {
                if (sum != 16) {
                    throw new Fault(8, place);
                }
                sum = 0;
            }
        }
        Token end = t.pass(";");
        if (weights.size() < rows * q.many) {
            throw new Fault(7, end.place);
        }
        int[][] table = new int[rows][q.many];
        for (int i = 0; i < weights.size(); i++) {
            table[i / q.many][i % q.many] = weights.get(i);
        }
        if (mind) {
            q.mind = table;
            q.mindBy = by;
        } else {
            q.law = table;
            q.lawBy = by;
        }
    }

    int testsRead;

    List<Test> readRules(String s) {
        Text t = new Text(s);
        List<Test> read = new ArrayList<>();
        testsRead = 0;
        while (t.see().kind != 'e') {
            Token flag = t.pass("flag");
            if (read.size() == 4) {
                throw new Fault(6, flag.place);
            }
            read.add(terms(t, 0));
            t.pass(";");
        }
        return read;
    }

    Test terms(Text t, int within) {
        Test first = term(t, within);
        if (!t.see().is("or")) {
            return first;
        }
        t.pass();
        Test rest = terms(t, within);
        return s -> first.holds(s) || rest.holds(s);
    }

    Test term(Text t, int within) {
        Test first = test(t, within);
        if (!t.see().is("and")) {
            return first;
        }
        t.pass();
        Test rest = term(t, within);
        return s -> first.holds(s) && rest.holds(s);
    }

    Test test(Text t, int within) {
        Token first = t.see();
        if (!Arrays.asList("not", "(", "same", "short", "late", "rare", "made", "card", "amiss").contains(first.text)) {
            throw new Fault(2, first.place);
        }
        if (within >= 8) {
            throw new Fault(5, first.place);
        }
        t.pass();
        if (first.is("not")) {
            Test inner = test(t, within + 1);
            return s -> !inner.holds(s);
        }
        if (first.is("(")) {
            Test inner = terms(t, within + 1);
            t.pass(")");
            return inner;
        }
        testsRead++;
        if (testsRead > 40) {
            throw new Fault(6, first.place);
        }
        if (first.is("amiss")) {
            return this::inAmiss;
        }
        int n = t.number(0, first.is("made") ? 16 : first.is("card") ? 2 : 9999);
        switch (first.text) {
            case "same":
                return s -> {
                    int others = 0;
                    for (Sheet o : sheets) {
                        if (o != s && o.asker == s.asker && Arrays.equals(o.answers, s.answers)) {
                            others++;
                        }
                    }
                    return others >= n;
                };
            case "short":
                return s -> s.to - s.from < n;
            case "late":
                return s -> s.to > n;
            case "rare":
                return s -> weight(s.answers, land.questions.size()).compareTo(big(n)) < 0;
            case "made":
                return s -> oddsAtLeast(s, 8, n);
            default:
                return s -> s.card == n;
        }
    }

    // ---- the terms

    static BigInteger big(long n) {
        return BigInteger.valueOf(n);
    }

    static void want(boolean it, int status) {
        if (!it) {
            throw new Refused(status);
        }
    }

    void sheetThere(int sheet) {
        want(sheet >= 0 && sheet < sheets.size(), 1);
    }

    void questionThere(int q) {
        want(q >= 0 && q < land.questions.size(), 1);
    }

    void answerThere(int q, int a) {
        questionThere(q);
        want(a >= 0 && a < land.questions.get(q).many, 1);
    }

    static void span(long n, long least, long most) {
        want(n >= least && n <= most, 1);
    }

    boolean tell(BigInteger a, BigInteger b) {
        BigInteger g = a.gcd(b);
        top = a.divide(g);
        bottom = b.divide(g);
        return true;
    }

    /** LAW ahead of a QUESTION, MIND from it on. */
    BigInteger weight(int[] answers, int mindFrom) {
        BigInteger w = BigInteger.ONE;
        for (int i = 0; i < land.questions.size(); i++) {
            Question q = land.questions.get(i);
            int by = i < mindFrom ? q.lawBy : q.mindBy;
            int[][] table = i < mindFrom ? q.law : q.mind;
            w = w.multiply(big(table[by < 0 ? 0 : answers[by]][answers[i]]));
        }
        return w;
    }

    /** Top and whole of ODDS. */
    BigInteger[] oddsOf(Sheet s, int share) {
        int[] said = {16, land.yesAsked, 16 - land.yesAsked};
        int[] saidMade = {16, land.yesMade, 16 - land.yesMade};
        BigInteger made = weight(s.answers, 0).multiply(big(share)).multiply(big(saidMade[s.card]));
        BigInteger asked = weight(s.answers, land.questions.size()).multiply(big(16 - share)).multiply(big(said[s.card]));
        return new BigInteger[] {made, made.add(asked)};
    }

    boolean oddsAtLeast(Sheet s, int share, int sixteenths) {
        BigInteger[] odds = oddsOf(s, share);
        return odds[1].signum() != 0
            && odds[0].multiply(big(16)).compareTo(odds[1].multiply(big(sixteenths))) >= 0;
    }

    int steps(int a, int b) {
        int[] p = land.doors.get(a);
        int[] q = land.doors.get(b);
        return Math.abs(p[0] - q[0]) + Math.abs(p[1] - q[1]);
    }

    int minutes(int a, int b) {
        int tenths = steps(a, b) * land.walk;
        return tenths % 10 == 0 ? tenths / 10 : tenths / 10 + 1;
    }

    List<Sheet> inOrder(int asker) {
        List<Sheet> of = new ArrayList<>();
        for (Sheet s : sheets) {
            if (s.asker == asker) {
                of.add(s);
            }
        }
        of.sort((a, b) -> a.from != b.from ? a.from - b.from : sheets.indexOf(a) - sheets.indexOf(b));
        return of;
    }

    boolean fits(Sheet behind, Sheet other) {
        return behind.from >= other.to + minutes(other.door, behind.door);
    }

    boolean inAmiss(Sheet s) {
        List<Sheet> of = inOrder(s.asker);
        int at = of.indexOf(s);
        for (int i = 0; i < of.size(); i++) {
            if (i < at && !fits(s, of.get(i)) || i > at && !fits(of.get(i), s)) {
                return true;
            }
        }
        return false;
    }

    List<int[]> allRows() {
        List<int[]> rows = new ArrayList<>();
        rows.add(new int[0]);
        for (Question q : land.questions) {
            List<int[]> longer = new ArrayList<>();
            for (int[] row : rows) {
                for (int a = 0; a < q.many; a++) {
                    int[] more = Arrays.copyOf(row, row.length + 1);
                    more[row.length] = a;
                    longer.add(more);
                }
            }
            rows = longer;
        }
        return rows;
    }

    static int unlikeAnswers(int[] a, int[] b) {
        int n = 0;
        for (int i = 0; i < a.length; i++) {
            if (a[i] != b[i]) {
                n++;
            }
        }
        return n;
    }

    int setOf(Test which) {
        int set = 0;
        for (int i = 0; i < sheets.size(); i++) {
            if (which.holds(sheets.get(i))) {
                set += 1 << i;
            }
        }
        return set;
    }

    Kept keep() {
        Kept k = new Kept();
        k.land = land;
        k.rules = rules;
        k.sheets = new ArrayList<>();
        for (Sheet s : sheets) {
            k.sheets.add(s.copy());
        }
        return k;
    }

    // ---- the calls: a number, or 1 and 0

    long call(String name, long... a) {
        try {
            long answer = dispatch(name, a);
            if (!name.equals("feed") && !name.equals("fault")) {
                status = 0;
            }
            return answer;
        } catch (Refused r) {
            status = r.status;
            return BOOLEANS.contains(name) ? 0 : -1;
        }
    }

    static final List<String> BOOLEANS = Arrays.asList("tray", "write", "pour", "alter", "card", "odds", "half",
        "twins", "strange", "goes", "number", "bounds");

    private long dispatch(String name, long[] v) {
        int[] a = new int[v.length];
        for (int i = 0; i < v.length; i++) {
            a[i] = (int) v[i];
        }
        switch (name) {
            case "tray": case "write": case "read": case "pour": return trayCall(name, a, v);
            case "feed": case "land": case "rules": case "fault": return textCall(name, a);
            case "told": case "question": case "weight": return landCall(name, a);
            case "sheet": case "look": case "alter": case "card": return sheetCall(name, a);
            case "sheetWeight": case "odds": case "half": return oddsCall(name, a);
            case "way": case "walked": case "amiss": return hoursCall(name, a);
            case "group": case "twins": case "strange": case "goes": return togetherCall(name, a);
            case "number": case "bounds": case "unlike": case "doubtful": return numberCall(name, a);
            case "flagged": case "hides": case "hidden": return ruleCall(name, a);
            case "worth": case "deters": case "checked": case "found": return worthCall(name, a);
            default: return worldCall(name, a);
        }
    }

    private long trayCall(String name, int[] a, long[] v) {
        span(a[0], 0, 3);
        if (name.equals("tray")) {
            span(a[1], 0, 3);
            span(a[2], 0, 60);
            trays[a[0]] = new long[a[2]];
            sorts[a[0]] = a[1];
            return 1;
        }
        if (name.equals("pour")) {
            span(a[2], 0, 3);
            want(a[1] >= 0 && a[3] >= 0 && a[4] >= 0, 1);
            want(trays[a[0]] != null && trays[a[2]] != null, 2);
            want(sorts[a[0]] == sorts[a[2]], 8);
            want((long) a[1] + a[4] <= trays[a[0]].length && (long) a[3] + a[4] <= trays[a[2]].length, 3);
            long[] as = Arrays.copyOfRange(trays[a[0]], a[1], a[1] + a[4]);
            for (int i = 0; i < as.length; i++) {
                trays[a[2]][a[3] + i] = as[i];
            }
            return 1;
        }
        long[] row = trays[a[0]];
        want(row != null, 2);
        want(a[1] >= 0 && a[1] < row.length, 3);
        if (name.equals("read")) {
            return row[a[1]];
        }
        int bits = 8 << sorts[a[0]];
        row[a[1]] = bits == 64 ? v[2] : v[2] << (64 - bits) >> (64 - bits);
        return 1;
    }

    private long textCall(String name, int[] a) {
        switch (name) {
            case "feed": {
                if (tape.length() > 680) {
                    return -1;
                }
                StringBuilder s = new StringBuilder(tape);
                for (int x : a) {
                    s.append((char) (x >>> 24)).append((char) (x >>> 16 & 255));
                    s.append((char) (x >>> 8 & 255)).append((char) (x & 255));
                }
                tape = s.toString();
                return tape.length();
            }
            case "fault":
                return a[0] == 0 ? faultKind : a[0] == 1 ? faultPlace : -1;
            default:
        }
        span(a[0], 0, tape.length());
        want(name.equals("land") || a[0] <= 300, 1);
        String text = tape.substring(0, a[0]);
        tape = "";
        try {
            if (name.equals("land")) {
                land = readLand(text);
                sheets = new ArrayList<>();
            } else {
                rules = readRules(text);
            }
            faultKind = 0;
            faultPlace = -1;
        } catch (Fault f) {
            faultKind = f.kind;
            faultPlace = f.place;
            throw new Refused(9);
        }
        return name.equals("land") ? land.questions.size() : rules.size();
    }

    private long landCall(String name, int[] a) {
        if (name.equals("told")) {
            span(a[0], 0, 6);
            return new int[] {land.questions.size(), land.doors.size(), sheets.size(), rules.size(), land.walk,
                land.yesAsked, land.yesMade}[a[0]];
        }
        questionThere(a[0]);
        Question q = land.questions.get(a[0]);
        if (name.equals("question")) {
            span(a[1], 0, 2);
            int by = a[1] == 1 ? q.lawBy : q.mindBy;
            want(a[1] == 0 || by >= 0, 6);
            return a[1] == 0 ? q.many : by;
        }
        int[][] table = a[1] == 1 ? q.mind : q.law;
        span(a[2], 0, table.length - 1);
        span(a[3], 0, q.many - 1);
        return table[a[2]][a[3]];
    }

    private long sheetCall(String name, int[] a) {
        if (name.equals("sheet")) {
            span(a[0], 0, 3);
            long[] row = trays[a[0]];
            want(row != null, 2);
            int many = land.questions.size();
            want(row.length >= 4 + many, 3);
            want(row[0] >= 0 && row[0] <= 3 && row[1] >= 0 && row[1] < land.doors.size(), 5);
            want(row[2] >= 0 && row[2] <= 1439 && row[3] <= 1439 && row[2] < row[3], 5);
            Sheet s = new Sheet();
            s.answers = new int[many];
            for (int i = 0; i < many; i++) {
                want(row[4 + i] >= 0 && row[4 + i] < land.questions.get(i).many, 5);
                s.answers[i] = (int) row[4 + i];
            }
            want(sheets.size() < 16, 4);
            s.asker = (int) row[0];
            s.door = (int) row[1];
            s.from = (int) row[2];
            s.to = (int) row[3];
            sheets.add(s);
            return sheets.size() - 1;
        }
        sheetThere(a[0]);
        Sheet s = sheets.get(a[0]);
        if (name.equals("alter")) {
            answerThere(a[1], a[2]);
            s.answers[a[1]] = a[2];
            s.truth = 0;
            return 1;
        }
        if (name.equals("card")) {
            span(a[1], 0, 2);
            s.card = a[1];
            return 1;
        }
        span(a[1], 0, 6 + s.answers.length);
        want(a[1] != 6 || s.truth == 3, 6);
        return a[1] > 6 ? s.answers[a[1] - 7]
            : new int[] {s.asker, s.door, s.from, s.to, s.card, s.truth, s.half}[a[1]];
    }

    private long oddsCall(String name, int[] a) {
        sheetThere(a[0]);
        Sheet s = sheets.get(a[0]);
        int many = land.questions.size();
        if (name.equals("sheetWeight")) {
            return weight(s.answers, a[1] == 1 ? 0 : many).longValueExact();
        }
        if (name.equals("odds")) {
            span(a[1], 0, 16);
            BigInteger[] odds = oddsOf(s, a[1]);
            want(odds[1].signum() != 0, 6);
            tell(odds[0], odds[1]);
            return 1;
        }
        span(a[1], 0, many);
        BigInteger all = BigInteger.ZERO;
        for (int k = 0; k <= many; k++) {
            all = all.add(weight(s.answers, k));
        }
        want(all.signum() != 0, 6);
        tell(weight(s.answers, a[1]), all);
        return 1;
    }

    private long hoursCall(String name, int[] a) {
        if (name.equals("way")) {
            span(a[0], 0, land.doors.size() - 1);
            span(a[1], 0, land.doors.size() - 1);
            return minutes(a[0], a[1]);
        }
        span(a[0], 0, 3);
        List<Sheet> of = inOrder(a[0]);
        if (name.equals("amiss")) {
            int couples = 0;
            for (int i = 0; i < of.size(); i++) {
                for (int j = i + 1; j < of.size(); j++) {
                    couples += fits(of.get(j), of.get(i)) ? 0 : 1;
                }
            }
            return couples;
        }
        List<Integer> best = new ArrayList<>();
        for (int pick = 0; pick < 1 << of.size(); pick++) {
            List<Integer> walk = new ArrayList<>();
            boolean goes = true;
            for (int i = 0; i < of.size(); i++) {
                if ((pick >> i & 1) == 1) {
                    goes &= walk.isEmpty() || fits(of.get(i), of.get(walk.get(walk.size() - 1)));
                    walk.add(i);
                }
            }
            if (goes && (walk.size() > best.size() || walk.size() == best.size() && sooner(walk, best))) {
                best = walk;
            }
        }
        int set = 0;
        for (int i : best) {
            set |= 1 << sheets.indexOf(of.get(i));
        }
        return set;
    }

    static boolean sooner(List<Integer> a, List<Integer> b) {
        for (int i = 0; i < a.size(); i++) {
            if (!a.get(i).equals(b.get(i))) {
                return a.get(i) < b.get(i);
            }
        }
        return false;
    }

    private long togetherCall(String name, int[] a) {
        BigInteger whole = BigInteger.ONE.shiftLeft(4 * land.questions.size());
        BigInteger sum = BigInteger.ZERO;
        if (name.equals("twins")) {
            for (int[] row : allRows()) {
                BigInteger w = weight(row, row.length);
                sum = sum.add(w.multiply(w));
            }
            tell(sum, whole.multiply(whole));
            return 1;
        }
        if (name.equals("strange")) {
            span(a[0], 0, 99999999);
            for (int[] row : allRows()) {
                BigInteger w = weight(row, row.length);
                sum = w.compareTo(big(a[0])) < 0 ? sum.add(w) : sum;
            }
            tell(sum, whole);
            return 1;
        }
        span(a[0], 0, 3);
        if (name.equals("goes")) {
            questionThere(a[1]);
            questionThere(a[2]);
            want(a[1] != a[2], 1);
            int all = 0;
            int both = 0;
            List<Sheet> of = inOrder(a[0]);
            for (int i = 0; i < of.size(); i++) {
                for (int j = i + 1; j < of.size(); j++) {
                    if (of.get(i).answers[a[1]] == of.get(j).answers[a[1]]) {
                        all++;
                        both += of.get(i).answers[a[2]] == of.get(j).answers[a[2]] ? 1 : 0;
                    }
                }
            }
            want(all > 0, 6);
            tell(big(both), big(all));
            return 1;
        }
        span(a[1], 0, 6);
        span(a[2], 0, 1);
        int most = 0;
        int which = -1;
        for (Sheet s : sheets) {
            int alike = 0;
            for (Sheet o : sheets) {
                alike += o.asker == a[0] && s.asker == a[0] && unlikeAnswers(s.answers, o.answers) <= a[1] ? 1 : 0;
            }
            if (alike > most) {
                most = alike;
                which = sheets.indexOf(s);
            }
        }
        want(which >= 0, 6);
        return a[2] == 0 ? most : which;
    }

    private long numberCall(String name, int[] a) {
        if (name.equals("unlike")) {
            span(a[0], 0, 3);
            List<String> rows = new ArrayList<>();
            for (Sheet s : sheets) {
                String row = Arrays.toString(s.answers);
                if (s.asker == a[0] && !rows.contains(row)) {
                    rows.add(row);
                }
            }
            return rows.size();
        }
        if (name.equals("doubtful")) {
            span(a[0], 0, 16);
            span(a[1], 0, 16);
            return setOf(s -> oddsAtLeast(s, a[0], a[1]));
        }
        answerThere(a[0], a[1]);
        if (name.equals("number")) {
            want(a[2] >= 0 && a[2] < 1 << sheets.size(), 1);
            want(a[2] > 0, 6);
            tell(big(with(a[0], a[1], a[2])), big(Integer.bitCount(a[2])));
            return 1;
        }
        span(a[2], 0, sheets.size() - 1);
        int best = -1;
        for (int set = 0; set < 1 << sheets.size(); set++) {
            if (Integer.bitCount(set) == sheets.size() - a[2]) {
                int n = with(a[0], a[1], set);
                best = best < 0 ? n : a[3] == 1 ? Math.max(best, n) : Math.min(best, n);
            }
        }
        tell(big(best), big(sheets.size() - a[2]));
        return 1;
    }

    int with(int q, int answer, int set) {
        int n = 0;
        for (int i = 0; i < sheets.size(); i++) {
            n += (set >> i & 1) == 1 && sheets.get(i).answers[q] == answer ? 1 : 0;
        }
        return n;
    }

    private long ruleCall(String name, int[] a) {
        if (name.equals("hidden")) {
            want(hidden != null, 6);
            span(a[0], 0, hidden.length - 1);
            return hidden[a[0]];
        }
        span(a[0], 0, rules.size() - 1);
        Test rule = rules.get(a[0]);
        if (name.equals("flagged")) {
            return setOf(rule);
        }
        sheetThere(a[1]);
        Sheet s = sheets.get(a[1]);
        int[] own = s.answers;
        int[] best = null;
        for (int[] row : allRows()) {
            s.answers = row;
            if (!rule.holds(s) && (best == null || unlikeAnswers(row, own) < unlikeAnswers(best, own))) {
                best = row;
            }
        }
        s.answers = own;
        want(best != null, 6);
        hidden = best;
        return unlikeAnswers(best, own);
    }

    boolean worth(Sheet s, int minute, int risk, int fine) {
        List<Sheet> of = inOrder(s.asker);
        int at = of.indexOf(s);
        int spent = s.to - s.from + (at == 0 ? 0 : minutes(of.get(at - 1).door, s.door));
        return spent * 16 * minute > risk * fine;
    }

    private long worthCall(String name, int[] a) {
        if (name.equals("found")) {
            want(found >= 0, 6);
            return found;
        }
        if (name.equals("worth")) {
            span(a[0], 0, 99);
            span(a[1], 0, 16);
            span(a[2], 0, 9999);
            return setOf(s -> worth(s, a[0], a[1], a[2]));
        }
        if (name.equals("deters")) {
            span(a[0], 0, 99);
            span(a[1], 0, 9999);
            for (int risk = 0; risk <= 16; risk++) {
                int r = risk;
                if (setOf(s -> worth(s, a[0], r, a[1])) == 0) {
                    return risk;
                }
            }
            throw new Refused(6);
        }
        span(a[0], 0, 999);
        span(a[1], 0, 16);
        int best = 0;
        int bestSum = 0;
        int[] worths = new int[sheets.size()];
        int[] costs = new int[sheets.size()];
        for (int i = 0; i < worths.length; i++) {
            BigInteger[] odds = oddsOf(sheets.get(i), a[1]);
            worths[i] = odds[1].signum() == 0 ? 0 : odds[0].multiply(big(4096)).divide(odds[1]).intValueExact();
            costs[i] = steps(0, sheets.get(i).door) + 1;
        }
        for (int set = 0; set < 1 << sheets.size(); set++) {
            int sum = 0;
            int cost = 0;
            for (int i = 0; i < worths.length; i++) {
                sum += (set >> i & 1) * worths[i];
                cost += (set >> i & 1) * costs[i];
            }
            if (cost <= a[0] && sum > bestSum) {
                best = set;
                bestSum = sum;
            }
        }
        found = bestSum;
        return best;
    }

    private int s;

    private int draw(int n) {
        s = (int) (((long) s * 2053 + 13849) % 65536);
        return s / 8 % n;
    }

    private long worldCall(String name, int[] a) {
        switch (name) {
            case "world": {
                span(a[0], 0, 9999);
                span(a[1], 0, 16);
                span(a[2], 0, 16);
                span((long) a[1] + a[2], 0, 16);
                s = a[0];
                int asked = 0;
                for (Sheet sheet : sheets) {
                    int many = land.questions.size();
                    int d = draw(16);
                    sheet.truth = d < a[1] ? 2 : d < a[1] + a[2] ? 3 : 1;
                    int from = sheet.truth == 2 ? 0 : many;
                    if (sheet.truth == 3) {
                        from = many == 0 ? 0 : draw(many);
                        sheet.half = from;
                    }
                    asked += sheet.truth == 1 ? 1 : 0;
                    for (int i = 0; i < many; i++) {
                        Question q = land.questions.get(i);
                        int by = i < from ? q.lawBy : q.mindBy;
                        int[] row = (i < from ? q.law : q.mind)[by < 0 ? 0 : sheet.answers[by]];
                        int left = draw(16);
                        int answer = 0;
                        while (left >= row[answer]) {
                            left -= row[answer];
                            answer++;
                        }
                        sheet.answers[i] = answer;
                    }
                }
                return asked;
            }
            case "score": {
                span(a[0], 0, rules.size() - 1);
                span(a[1], 0, 2);
                int n = 0;
                for (Sheet sheet : sheets) {
                    boolean flags = rules.get(a[0]).holds(sheet);
                    boolean made = sheet.truth == 2 || sheet.truth == 3;
                    boolean counts = a[1] == 0 ? flags && made : a[1] == 1 ? flags && sheet.truth == 1 : !flags && made;
                    n += counts ? 1 : 0;
                }
                return n;
            }
            case "mark":
                want(marks.size() < 3, 4);
                marks.add(keep());
                return marks.size();
            case "back": {
                want(!marks.isEmpty(), 6);
                Kept k = marks.remove(marks.size() - 1);
                land = k.land;
                rules = k.rules;
                sheets = k.sheets;
                return marks.size();
            }
            default:
                throw new IllegalStateException(name);
        }
    }
}
