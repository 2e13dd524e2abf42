/** The sentences of the document that name a boundary of a call: promises 1 to 33, but for what TEXTS say (TextEdgesTest). */
public final class CallEdgesTest {
    private static final Asked T = new Asked();
    private static final String SIX = "ask a 2;ask b 2;ask c 2;ask d 2;ask e 2;ask f 2;";
    private static final int MIN = Integer.MIN_VALUE;
    private static final int MAX = Integer.MAX_VALUE;

    public static void main(String[] args) {
        newObject();
        lastCalls();
        statusTold();
        fractionTold();
        trayNumbers();
        trayLaid();
        traySorts();
        placesOfTrays();
        pourNumbers();
        pourPlaces();
        feeding();
        faultTold();
        landTold();
        questionTold();
        weightTold();
        sheetNumbers();
        sheetOrder();
        sheetsFull();
        sheetsBeginAnew();
        lookNumbers();
        altered();
        cards();
        sheetWeights();
        odds();
        oddsOfNone();
        oddsByCards();
        halves();
        ways();
        fits();
        walks();
        walkTies();
        groups();
        twins();
        strange();
        goes();
        numbers();
        bounds();
        unlike();
        doubtful();
        T.end("CallEdgesTest");
    }

    // ---- 1 to 4

    private static void newObject() {
        T.sentence("Promise 1",
            "No QUESTIONS, DOORS, SHEETS, RULES, MARKS; WALK 10, CARDS 14 and 2; TRAYS are MISSING; an empty tape;"
            + " the FRACTION 0 by 1; STATUS 0.");
        KitchenSheets x = new KitchenSheets();
        T.due("STATUS", x.status(), 0);
        T.due("top", x.top(), 0);
        T.due("bottom", x.bottom(), 1);
        long[] told = {0, 0, 0, 0, 10, 14, 2};
        for (int what = 0; what < 7; what++) {
            T.due("told " + what, x.told(what), told[what]);
        }
        T.refused(x, "no MARKS", x.back(), 6);
        for (int tray = 0; tray < 4; tray++) {
            T.refused(x, "MISSING " + tray, x.read(tray, 0), 2);
        }
        T.refused(x, "an empty tape", x.land(1), 1);
        T.refused(x, "an empty tape", x.rules(1), 1);
        T.refused(x, "no QUESTION", x.question(0, 0), 1);
        T.refused(x, "no DOOR", x.way(0, 0), 1);
        T.refused(x, "no SHEET", x.look(0, 0), 1);
        T.refused(x, "no RULE", x.flagged(0), 1);
        T.refused(x, "no hides() yet", x.hidden(0), 6);
        T.refused(x, "no checked() yet", x.found(), 6);
        T.due("no land() yet", x.fault(0) * 10 + x.fault(1), -11);
        T.due("the tape", x.feed(0, 0, 0, 0, 0), 20);
        T.due("the constant", KitchenSheets.NONE, -1);
    }

    private static void lastCalls() {
        T.sentence("What it is",
            "An object is used for at most 512 calls after it has been made; what later calls answer is free.");
        KitchenSheets x = new KitchenSheets();
        int calls = 0;
        for (int i = 0; i < 102; i++) {
            x.tray(i % 4, i % 4, 60);
            x.write(i % 4, 59, i % 100);
            x.mark();
            x.feed(0x20202020, 0x20202020, 0x20202020, 0x20202020, 0x20202020);
            x.back();
            calls += 5;
        }
        T.due("call " + (calls + 1), x.land(700), 0);
        T.due("call " + (calls + 2), x.read(1, 59), 1);
        T.due("calls", calls + 2, 512);
    }

    private static void statusTold() {
        T.sentence("Promise 2", "STATUS of the latest call that has one.");
        T.sentence("==== 4.", "status(), top(), bottom(), feed(), fault() have none.");
        KitchenSheets x = new KitchenSheets();
        x.land(1);
        x.top();
        x.bottom();
        T.due("feed", x.feed(0, 0, 0, 0, 0), 20);
        T.due("no fault yet", x.fault(0), -1);
        T.due("fault of others", x.fault(7), -1);
        T.due("STATUS is still that of land()", x.status(), 1);
        T.due("asked twice", x.status(), 1);
        x.land(0);
        for (int i = 0; i < 36; i++) {
            x.feed(0, 0, 0, 0, 0);
        }
        x.fault(-1);
        T.due("a feed() that gives NONE changes none", x.status(), 0);
        x.land(700);
        T.due("9", x.status(), 9);
        x.fault(0);
        T.due("still", x.status(), 9);
        x.twins();
        T.due("0 else", x.status(), 0);
    }

    private static void fractionTold() {
        T.sentence("Promise 3", "The top of the FRACTION told latest.");
        T.sentence("==== 3.",
            "FRACTIONS are told by top() and bottom() without a common divisor, the bottom above 0; 0 is 0 by 1.");
        KitchenSheets x = Asked.kitchen();
        T.fraction(x, "4 by 8", x.bounds(0, 0, 1, true), 3, 4);
        T.fraction(x, "0 of 3", x.number(0, 1, 13), 0, 1);
        T.fraction(x, "2 of 2", x.number(0, 1, 18), 1, 1);
        T.fraction(x, "2 of 4", x.number(0, 0, 27), 1, 2);
        x.odds(9, 9);
        x.odds(2, 16);
        x.goes(1, 0, 1);
        x.strange(-1);
        x.number(0, 0, 0);
        x.bounds(0, 0, 5, true);
        x.half(0, 9);
        x.told(0);
        T.due("refused ones tell none", x.top() * 10 + x.bottom(), 12);
        Asked.land(x, "");
        T.due("a LAND tells none", x.top() * 10 + x.bottom(), 12);
    }

    // ---- 5 to 8: TRAYS

    private static void trayNumbers() {
        T.sentence("Terms",
            "TRAYS 0 to 3 are MISSING at first, or rows of 0 to 60 numbers of 8 bits (sort 0), 16 (1), 32 (2) or 64"
            + " (3).");
        KitchenSheets x = new KitchenSheets();
        T.refusedCall(x, 2, "write", 3, 0, 1);
        T.refusedCall(x, 2, "sheet", 0);
        T.refusedCall(x, 2, "pour", 0, 0, 0, 0, 0);
        T.span(x, 0, 3, 0, "tray", 0, 0, 9);
        T.span(x, 0, 3, 1, "tray", 0, 0, 9);
        T.span(x, 0, 60, 2, "tray", 0, 0, 9);
        T.span(x, 0, 3, 0, "write", 0, 0, 7);
        T.span(x, 0, 3, 0, "read", 0, 0);
        T.span(x, 0, 3, 0, "sheet", 0);
        T.span(x, 0, 3, 0, "pour", 0, 0, 0, 0, 0);
        T.span(x, 0, 3, 2, "pour", 0, 0, 0, 0, 0);
        for (int tray = 0; tray < 4; tray++) {
            T.due("tray of 60", x.tray(tray, tray, 60), true);
            T.due("the last place", x.write(tray, 59, tray + 5), true);
        }
        for (int tray = 0; tray < 4; tray++) {
            T.due("each has its own", x.read(tray, 59), tray + 5);
            T.due("first place", x.read(tray, 0), 0);
            T.refusedCall(x, 3, "read", tray, 60);
            T.due("tray of none", x.tray(tray, 3 - tray, 0), true);
            T.refusedCall(x, 3, "read", tray, 0);
            T.refusedCall(x, 3, "write", tray, 0, 1);
        }
    }

    private static void trayLaid() {
        T.sentence("Promise 5", "A TRAY is a row of so many 0s (1).");
        KitchenSheets x = new KitchenSheets();
        x.tray(2, 3, 5);
        for (int i = 0; i < 5; i++) {
            x.write(2, i, -1 - i);
        }
        T.refusedCall(x, 1, "tray", 2, 4, 5);
        T.refusedCall(x, 1, "tray", 2, 3, 61);
        T.due("it is left as it was", x.read(2, 4), -5);
        T.due("fewer", x.tray(2, 3, 2), true);
        T.refusedCall(x, 3, "read", 2, 2);
        T.due("more again", x.tray(2, 3, 5), true);
        for (int i = 0; i < 5; i++) {
            T.due("0 in " + i, x.read(2, i), 0);
        }
        for (int many : new int[] {60, 1, 60}) {
            T.due("tray of " + many, x.tray(2, 3, many), true);
            T.due("0 in the last place", x.read(2, many - 1), 0);
            T.due("a number there", x.write(2, many - 1, 5), true);
        }
        x.write(2, 0, 300);
        T.due("another sort", x.tray(2, 0, 5), true);
        T.due("0", x.read(2, 0), 0);
        T.refusedCall(x, 2, "read", 1, 0);
    }

    private static void traySorts() {
        T.sentence("Promise 6", "A number comes to a place of a TRAY, cut to its sort (1, 2, 3).");
        KitchenSheets x = new KitchenSheets();
        for (int sort = 0; sort < 4; sort++) {
            x.tray(sort, sort, 3);
            long half = 1L << ((8 << sort) - 1);
            cut(x, sort, half - 1, half - 1);
            cut(x, sort, -half, -half);
            cut(x, sort, half, -half);
            cut(x, sort, -half - 1, half - 1);
            cut(x, sort, 2 * half - 1, -1);
            cut(x, sort, 2 * half, 0);
            cut(x, sort, 2 * half + 1, 1);
            cut(x, sort, Long.MAX_VALUE, sort == 3 ? Long.MAX_VALUE : -1);
            cut(x, sort, Long.MIN_VALUE, sort == 3 ? Long.MIN_VALUE : 0);
            cut(x, sort, 0x5566778812345678L, new long[] {0x78, 0x5678, 0x12345678, 0x5566778812345678L}[sort]);
        }
        T.sentence("Promise 7", "The number in a place of a TRAY; STATUS tells NONE from -1 (1, 2, 3).");
        cut(x, 0, -1, -1);
        T.refusedCall(x, 3, "read", 0, 3);
        T.refusedCall(x, 1, "read", 4, 0);
    }

    private static void cut(KitchenSheets x, int tray, long v, long due) {
        T.due("write " + v, x.write(tray, 1, v), true);
        T.due("read of sort " + tray + ", " + v, x.read(tray, 1), due);
        T.due("read has STATUS 0", x.status(), 0);
        T.due("beside it", x.read(tray, 0) | x.read(tray, 2), 0);
    }

    private static void placesOfTrays() {
        T.sentence("==== 4.",
            "1 a number that can't be; no such TRAY, QUESTION, SHEET, RULE; a set with others. 2 the TRAY is"
            + " MISSING. 3 a place that the TRAY has not, or too few numbers.");
        KitchenSheets x = new KitchenSheets();
        x.tray(1, 2, 4);
        for (int place : new int[] {-1, 4, 60, MIN, MAX}) {
            T.refusedCall(x, 3, "read", 1, place);
            T.refusedCall(x, 3, "write", 1, place, 5);
            T.refusedCall(x, 2, "read", 0, place);
            T.refusedCall(x, 2, "write", 0, place, 5);
            T.refusedCall(x, 1, "read", 4, place);
            T.refusedCall(x, 1, "write", -1, place, 5);
        }
        for (int place = 0; place < 4; place++) {
            T.due("nothing was written", x.read(1, place), 0);
        }
    }

    private static KitchenSheets threeTrays() {
        KitchenSheets x = new KitchenSheets();
        x.tray(0, 1, 5);
        x.tray(1, 1, 3);
        x.tray(2, 2, 5);
        for (int i = 0; i < 5; i++) {
            x.write(0, i, i + 1);
        }
        return x;
    }

    private static void pourNumbers() {
        T.sentence("Promise 8",
            "(1: below 0, too; 2; 8; 3: there are not so many from there on; of none, the place just behind the"
            + " last one will do, too; asked in this order)");
        KitchenSheets x = threeTrays();
        for (int below : new int[] {-1, MIN}) {
            T.refusedCall(x, 1, "pour", 0, below, 1, 0, 1);
            T.refusedCall(x, 1, "pour", 0, 0, 1, below, 1);
            T.refusedCall(x, 1, "pour", 0, 0, 1, 0, below);
            T.refusedCall(x, 1, "pour", 3, below, 2, 9, 9);
            T.refusedCall(x, 1, "pour", 3, 9, 2, below, 9);
            T.refusedCall(x, 1, "pour", 3, 9, 2, 9, below);
        }
        T.refusedCall(x, 1, "pour", 4, 0, 3, 9, 9);
        T.refusedCall(x, 1, "pour", 3, 9, 4, 0, 9);
        T.refusedCall(x, 2, "pour", 3, 9, 2, 9, 9);
        T.refusedCall(x, 2, "pour", 2, 9, 3, 9, 9);
        T.refusedCall(x, 2, "pour", 3, 0, 3, 0, 0);
        T.refusedCall(x, 8, "pour", 0, 9, 2, 9, 9);
        T.refusedCall(x, 8, "pour", 2, 0, 0, 0, 1);
        T.refusedCall(x, 8, "pour", 2, 0, 0, 0, 0);
        T.refusedCall(x, 3, "pour", 0, 9, 1, 9, 9);
        for (int i = 0; i < 5; i++) {
            T.due("nothing was poured", x.read(0, i), i + 1);
            T.due("nor there", x.read(2, i), 0);
        }
    }

    private static void pourPlaces() {
        T.sentence("Promise 8",
            "3: there are not so many from there on; of none, the place just behind the last one will do, too;");
        KitchenSheets x = threeTrays();
        T.refusedCall(x, 3, "pour", 0, 3, 1, 0, 3);
        T.refusedCall(x, 3, "pour", 0, 5, 1, 0, 1);
        T.refusedCall(x, 3, "pour", 0, 0, 1, 1, 3);
        T.refusedCall(x, 3, "pour", 0, 0, 1, 3, 1);
        T.refusedCall(x, 3, "pour", 0, 0, 1, 0, 4);
        T.refusedCall(x, 3, "pour", 1, 0, 0, 0, 4);
        T.refusedCall(x, 3, "pour", 0, 6, 1, 0, 0);
        T.refusedCall(x, 3, "pour", 0, 0, 1, 4, 0);
        T.refusedCall(x, 3, "pour", 0, MAX, 1, 0, 0);
        T.refusedCall(x, 3, "pour", 0, MAX, 1, 0, MAX);
        T.refusedCall(x, 3, "pour", 0, 1, 1, MAX, MAX);
        T.due("of none, just behind", x.pour(0, 5, 1, 3, 0), true);
        T.due("nothing came", x.read(1, 2), 0);
        T.due("the last two places", x.pour(0, 3, 1, 1, 2), true);
        T.due("they came", x.read(1, 0) * 100 + x.read(1, 1) * 10 + x.read(1, 2), 45);
        T.due("all of it", x.pour(1, 0, 0, 2, 3), true);
        T.due("they came", five(x), 12045);
        T.sentence("Promise 8", "come to another one's (or its own) place on, as they were");
        for (int i = 0; i < 5; i++) {
            x.write(0, i, i + 1);
        }
        T.due("its own, up", x.pour(0, 0, 0, 1, 4), true);
        T.due("as they were", five(x), 11234);
        T.due("its own, down", x.pour(0, 1, 0, 0, 4), true);
        T.due("as they were", five(x), 12344);
        T.due("its own, all to where they are", x.pour(0, 0, 0, 0, 5), true);
        T.due("as they were", five(x), 12344);
        x.tray(0, 1, 0);
        T.due("of a TRAY of none", x.pour(0, 0, 0, 0, 0), true);
        T.refusedCall(x, 3, "pour", 0, 0, 0, 0, 1);
        T.refusedCall(x, 3, "pour", 0, 1, 0, 0, 0);
    }

    private static long five(KitchenSheets x) {
        long told = 0;
        for (int i = 0; i < 5; i++) {
            told = told * 10 + x.read(0, i);
        }
        return told;
    }

    // ---- 9 to 15: the LAND

    private static void feeding() {
        T.sentence("Promise 9",
            "Twenty bytes come behind those on the tape, the highest of each int first: how many it has;");
        KitchenSheets x = new KitchenSheets();
        T.due("door 12 34;walk 56;.", x.feed(0x646f6f72, 0x20313220, 0x33343b77, 0x616c6b20, 0x35363b0a), 20);
        T.due("door 0 0; cards 7 8;", x.feed(0x646f6f72, 0x20302030, 0x3b206361, 0x72647320, 0x3720383b), 40);
        T.due("all of it", x.land(40), 0);
        T.due("WALK and CARDS", x.told(4) * 100 + x.told(5) * 10 + x.told(6), 5678);
        T.due("46 STEPS by 56", x.way(0, 1), 258);
        x.feed(0x20202020, 0x20202020, 0x20202020, 0x20202020, 0x202020ff);
        x.land(20);
        T.due("the lowest of the last one is the last byte", x.fault(1), 19);
        T.sentence("Promise 9", "NONE if there would be more than 700.");
        for (int i = 1; i < 35; i++) {
            T.due("feed", x.feed(0x20202020, 0x20202020, 0x20202020, 0x20202020, 0x20202020), 20 * i);
        }
        T.due("700: door 1 1; door 2 2; ", x.feed(0x646f6f72, 0x20312031, 0x3b646f6f, 0x72203220, 0x32203b20), 700);
        T.due("720", x.feed(-1, -1, -1, -1, -1), -1);
        T.due("once more", x.feed(0, 0, 0, 0, 0), -1);
        T.due("the tape is as it was", x.land(700), 0);
        T.due("DOORS", x.told(1), 2);
        T.due("it is empty then", x.feed(0, 0, 0, 0, 0), 20);
    }

    private static void faultTold() {
        T.sentence("Promise 12",
            "Of the latest land() or rules() with STATUS 0 or 9, what 0: the FAULT (0 without one), 1: its place"
            + " (NONE without). NONE for others, and ahead of any.");
        KitchenSheets x = new KitchenSheets();
        x.land(-1);
        x.rules(301);
        for (int what : new int[] {0, 1, 2, -1, MIN, MAX}) {
            T.due("ahead of any", x.fault(what), -1);
        }
        x.land(0);
        T.due("without one", x.fault(0), 0);
        T.due("its place", x.fault(1), -1);
        KitchenSheets y = new KitchenSheets();
        y.rules(0);
        T.due("rules() without one, ahead of any land()", y.fault(0) * 10 + y.fault(1), -1);
        y = new KitchenSheets();
        Asked.rules(y, "flag made 17;");
        T.due("rules() with one, ahead of any land()", y.fault(0) * 100 + y.fault(1), 410);
        y = new KitchenSheets();
        Asked.land(y, " walk 0;");
        T.due("land() with one, ahead of any rules()", y.fault(0) * 100 + y.fault(1), 406);
        Asked.rules(x, "flag made 17;");
        T.due("of rules()", x.fault(0) * 100 + x.fault(1), 410);
        Asked.feed(x, "~");
        x.rules(21);
        x.land(-1);
        T.due("STATUS 1 tells none", x.fault(0) * 100 + x.fault(1), 410);
        for (int what : new int[] {2, -1, MIN, MAX}) {
            T.due("of others", x.fault(what), -1);
        }
        x.land(20);
        T.due("of land()", x.fault(0) * 100 + x.fault(1), 100);
        x.mark();
        x.back();
        x.told(9);
        T.due("other calls leave it", x.fault(0), 1);
        x.rules(0);
        T.due("without one again", x.fault(0), 0);
        T.due("its place", x.fault(1), -1);
    }

    private static void landTold() {
        T.sentence("Promise 13",
            "How many QUESTIONS (what 0), DOORS (1), SHEETS (2), RULES (3); WALK (4), CARDS (5, 6) (1).");
        KitchenSheets x = Asked.kitchen();
        Asked.rules(x, "flag amiss;");
        long[] told = {2, 3, 5, 1, 5, 12, 4};
        for (int what = 0; what < 7; what++) {
            T.due("told " + what, x.told(what), told[what]);
            T.due("status", x.status(), 0);
        }
        T.span(x, 0, 6, 0, "told", 0);
    }

    private static void questionTold() {
        T.sentence("Promise 14",
            "How many ANSWERS a QUESTION has (what 0), by which one its LAW (1), its MIND goes (2) (6: by none)"
            + " (1).");
        KitchenSheets x = new KitchenSheets();
        T.refusedCall(x, 1, "question", 0, 0);
        Asked.land(x, SIX + "law f by a 8 8 8 8;mind f by e 8 8 8 8;law b by a 8 8 8 8;mind c by a 8 8 8 8;");
        T.span(x, 0, 5, 0, "question", 0, 0);
        T.span(x, 0, 2, 1, "question", 0, 0);
        T.due("law by the first", x.question(5, 1), 0);
        T.due("mind by the fifth", x.question(5, 2), 4);
        T.due("law by the first", x.question(1, 1), 0);
        T.refusedCall(x, 6, "question", 1, 2);
        T.refusedCall(x, 6, "question", 2, 1);
        T.due("mind by the first", x.question(2, 2), 0);
        T.refusedCall(x, 6, "question", 0, 1);
        T.refusedCall(x, 6, "question", 0, 2);
        T.refusedCall(x, 1, "question", 0, 3);
        T.refusedCall(x, 1, "question", 6, 1);
    }

    private static void weightTold() {
        T.sentence("Promise 15", "A WEIGHT of a QUESTION's LAW (mind: of its MIND): a row (by none: 0), an ANSWER (1).");
        KitchenSheets x = new KitchenSheets();
        T.refusedCall(x, 1, "weight", 0, 0, 0, 0);
        Asked.land(x, "ask a 3;ask b 4;ask c 2;law c by b 16 0 15 1 14 2 13 3;mind c by a 1 15 2 14 3 13;");
        T.span(x, 0, 2, 0, "weight", 0, 0, 0, 0);
        T.span(x, 0, 3, 2, "weight", 2, 0, 0, 0);
        T.span(x, 0, 2, 2, "weight", 2, 1, 0, 0);
        T.span(x, 0, 0, 2, "weight", 0, 0, 0, 0);
        T.span(x, 0, 0, 2, "weight", 1, 1, 0, 0);
        T.span(x, 0, 2, 3, "weight", 0, 0, 0, 0);
        T.span(x, 0, 3, 3, "weight", 1, 1, 0, 0);
        T.span(x, 0, 1, 3, "weight", 2, 0, 3, 0);
        for (int row = 0; row < 4; row++) {
            T.due("law", x.weight(2, false, row, 0) * 100 + x.weight(2, false, row, 1), (16 - row) * 100 + row);
        }
        for (int row = 0; row < 3; row++) {
            T.due("mind", x.weight(2, true, row, 0) * 100 + x.weight(2, true, row, 1), (1 + row) * 100 + 15 - row);
        }
    }

    // ---- 16 to 19: SHEETS

    private static void sheetNumbers() {
        T.sentence("==== 2.",
            "an ASKER (0 to 3), a DOOR, from a minute to a later one (0 to 1,439), an ANSWER to each QUESTION;");
        KitchenSheets x = new KitchenSheets();
        Asked.land(x, "ask a 4;ask b 2;ask c 3;door 1 1;door 2 2;");
        long[][] right = {{0, 0, 0, 1, 0, 0, 0}, {3, 1, 1438, 1439, 3, 1, 2}, {1, 1, 0, 1439, 1, 0, 2}};
        for (int i = 0; i < 3; i++) {
            T.due("sheet", Asked.sheet(x, right[i]), i);
            for (int j = 0; j < 7; j++) {
                T.due("number " + j, x.look(i, j < 4 ? j : j + 3), right[i][j]);
            }
            T.due("CARD", x.look(i, 4), 0);
            T.due("TRUTH", x.look(i, 5), 0);
        }
        T.sentence("==== 4.", "5 a number in a TRAY that can't be.");
        long far = 1L << 32;
        long[][] wrong = {{4, -1, far, far + 1, 255, Long.MIN_VALUE, Long.MAX_VALUE}, {2, -1, far, far + 1},
            {-1, 20, 21, 1440, far, -far + 10}, {10, 9, -1, 1440, far + 20, Long.MAX_VALUE}, {4, -1, far}, {2, -1, far}, {3, -1, far}};
        for (int j = 0; j < 7; j++) {
            for (long w : wrong[j]) {
                long[] numbers = {0, 0, 10, 20, 0, 0, 0};
                numbers[j] = w;
                T.refused(x, "number " + j + " is " + w, Asked.sheet(x, numbers), 5);
            }
        }
        T.refused(x, "both too late", Asked.sheet(x, 0, 0, 1439, 1440, 0, 0, 0), 5);
        T.refused(x, "both below 0", Asked.sheet(x, 0, 0, -2, -1, 0, 0, 0), 5);
        T.due("none came", x.told(2), 3);
        Asked.land(x, "ask a 2;");
        T.refused(x, "without DOORS", Asked.sheet(x, 0, 0, 1, 2, 0), 5);
        StringBuilder doors = new StringBuilder();
        for (int i = 0; i < 16; i++) {
            doors.append("door 1 1;");
        }
        Asked.land(x, doors.toString());
        T.due("without QUESTIONS, the sixteenth DOOR", Asked.sheet(x, 0, 15, 1, 2), 0);
        T.refused(x, "a seventeenth", Asked.sheet(x, 0, 16, 1, 2), 5);
    }

    private static void sheetOrder() {
        T.sentence("Promise 16",
            "ASKER, DOOR, two minutes, an ANSWER for each QUESTION: its number (1, 2, 3, 5, 4; in this order).");
        KitchenSheets x = Asked.kitchen();
        T.refusedCall(x, 1, "sheet", 4);
        T.refusedCall(x, 1, "sheet", -1);
        T.refusedCall(x, 2, "sheet", 0);
        x.tray(1, 3, 0);
        T.refusedCall(x, 3, "sheet", 1);
        T.refused(x, "one too few", Asked.sheet(x, 0, 0, 1, 2, 0), 3);
        T.refused(x, "too few ahead of wrong ones", Asked.sheet(x, 9, 9, 9, 9, 9), 3);
        T.due("just so many", Asked.sheet(x, 2, 0, 1, 2, 0, 1), 5);
        T.due("more than enough, whatever they are", Asked.sheet(x, 2, 0, 1, 2, 1, 0, 99, -1), 6);
        T.due("its ANSWERS", x.look(6, 7) * 10 + x.look(6, 8), 10);
        x.tray(1, 1, 60);
        x.write(1, 3, 1);
        T.due("of sixty", x.sheet(1), 7);
        T.due("the TRAY is left", x.read(1, 3), 1);
        T.due("and once more", x.sheet(1), 8);
        x.tray(2, 0, 6);
        x.write(2, 3, 127);
        T.due("of 8 bits", x.sheet(2), 9);
        x.write(2, 3, 128);
        T.refusedCall(x, 5, "sheet", 2);
        for (int i = 10; i < 16; i++) {
            T.due("sheet", x.sheet(1), i);
        }
        T.refusedCall(x, 4, "sheet", 1);
        x.write(1, 0, 4);
        T.refusedCall(x, 5, "sheet", 1);
        x.tray(1, 1, 5);
        x.write(1, 0, 4);
        T.refusedCall(x, 3, "sheet", 1);
        T.refusedCall(x, 2, "sheet", 0);
        T.refusedCall(x, 1, "sheet", 5);
        T.due("none came", x.told(2), 16);
    }

    private static void sheetsFull() {
        T.sentence("==== 2.", "SHEETS, at most 16, numbered as they come");
        KitchenSheets x = new KitchenSheets();
        Asked.land(x, SIX + "door 1 1;");
        for (int i = 0; i < 16; i++) {
            T.due("sheet", Asked.sheet(x, i % 4, 0, i, 2 * i + 1, i & 1, i >> 1 & 1, i >> 2 & 1, i >> 3 & 1, 0, 1), i);
        }
        T.refused(x, "a seventeenth", Asked.sheet(x, 0, 0, 1, 2, 0, 0, 0, 0, 0, 0), 4);
        T.refused(x, "once more", x.sheet(3), 4);
        T.due("how many", x.told(2), 16);
        for (int i = 0; i < 16; i++) {
            T.due("ASKER of " + i, x.look(i, 0), i % 4);
            T.due("minutes of " + i, x.look(i, 2) * 100 + x.look(i, 3), i * 100 + 2 * i + 1);
            for (int q = 0; q < 4; q++) {
                T.due("ANSWER of " + i, x.look(i, 7 + q), i >> q & 1);
            }
            T.due("last ANSWERS of " + i, x.look(i, 11) * 10 + x.look(i, 12), 1);
        }
        T.span(x, 0, 15, 0, "look", 0, 0);
    }

    private static void sheetsBeginAnew() {
        T.sentence("==== 2.",
            "a CARD (0: none came back, 1: yes, 2: no; 0 at first). TRUTH of a SHEET: not known (0), ASKED (1),"
            + " MADE (2), HALF (3: from a QUESTION on).");
        KitchenSheets x = Asked.kitchen();
        x.world(1, 5, 6);
        for (int i = 0; i < 5; i++) {
            x.card(i, 2);
            T.due("known", x.look(i, 5) > 0, true);
        }
        Asked.land(x, "ask a 2;door 0 0;");
        for (int i = 0; i < 5; i++) {
            T.due("where others were", Asked.sheet(x, 2, 0, 3, 4, 1), i);
            T.due("CARD", x.look(i, 4), 0);
            T.due("TRUTH", x.look(i, 5), 0);
            T.refusedCall(x, 6, "look", i, 6);
            T.due("ASKER, DOOR, minutes", x.look(i, 0) * 1000 + x.look(i, 1) * 100 + x.look(i, 2) * 10 + x.look(i, 3), 2034);
            T.due("ANSWER", x.look(i, 7), 1);
        }
        T.due("behind a MARK", x.mark(), 1);
        for (int i = 5; i < 8; i++) {
            Asked.sheet(x, 1, 0, 1, 2, 0);
            x.card(i, 1);
        }
        x.world(1, 16, 0);
        x.back();
        T.due("where another one was taken back", Asked.sheet(x, 0, 0, 5, 6, 1), 5);
        T.due("CARD and TRUTH", x.look(5, 4) * 10 + x.look(5, 5), 0);
    }

    private static void lookNumbers() {
        T.sentence("Promise 17",
            "Of a SHEET, what 0: ASKER, 1: DOOR, 2, 3: minutes, 4: CARD, 5: TRUTH, 6: of a HALF one from which"
            + " QUESTION on (6: it is none), 7 on: ANSWERS (1).");
        KitchenSheets x = Asked.kitchen();
        T.span(x, 0, 4, 0, "look", 0, 0);
        T.span(x, 0, 8, 1, "look", 0, 0);
        T.refusedCall(x, 6, "look", 0, 6);
        T.refusedCall(x, 1, "look", 5, 6);
        x.world(1, 5, 6);
        T.due("MADE", x.look(0, 5), 2);
        T.refusedCall(x, 6, "look", 0, 6);
        T.due("HALF", x.look(1, 5), 3);
        T.due("from QUESTION 1 on", x.look(1, 6), 1);
        T.due("status", x.status(), 0);
        T.due("HALF", x.look(3, 5), 3);
        T.due("from QUESTION 0 on", x.look(3, 6), 0);
        x.world(1, 0, 0);
        T.due("ASKED", x.look(1, 5), 1);
        T.refusedCall(x, 6, "look", 1, 6);
        Asked.land(x, "door 1 1;");
        T.refusedCall(x, 1, "look", 0, 0);
        Asked.sheet(x, 0, 0, 1, 2);
        T.span(x, 0, 6, 1, "look", 0, 0);
        Asked.land(x, SIX + "door 1 1;");
        Asked.sheet(x, 0, 0, 1, 2, 1, 1, 1, 1, 1, 1);
        T.span(x, 0, 12, 1, "look", 0, 0);
        T.due("the sixth ANSWER", x.look(0, 12), 1);
    }

    private static void altered() {
        T.sentence("Promise 18", "A SHEET has another ANSWER to a QUESTION (its TRUTH is not known then) (1).");
        KitchenSheets x = new KitchenSheets();
        T.refusedCall(x, 1, "alter", 0, 0, 0);
        Asked.land(x, "ask a 2;ask b 4;ask c 3;door 0 0;");
        T.refusedCall(x, 1, "alter", 0, 0, 0);
        Asked.sheet(x, 0, 0, 1, 2, 1, 1, 1);
        Asked.sheet(x, 0, 0, 1, 2, 1, 1, 1);
        x.world(0, 16, 0);
        T.refusedCall(x, 1, "alter", 0, 0, 2);
        T.due("a refused one leaves the TRUTH", x.look(0, 5), 2);
        T.span(x, 0, 1, 0, "alter", 0, 0, 0);
        T.span(x, 0, 2, 1, "alter", 0, 0, 0);
        T.span(x, 0, 1, 2, "alter", 0, 0, 0);
        T.span(x, 0, 3, 2, "alter", 0, 1, 0);
        T.span(x, 0, 2, 2, "alter", 0, 2, 0);
        T.due("each has the last one taken", x.look(0, 7) * 100 + x.look(0, 8) * 10 + x.look(0, 9), 132);
        x.world(0, 0, 16);
        T.due("HALF", x.look(0, 5) * 10 + x.look(1, 5), 33);
        T.due("to the one that it has", x.alter(0, 1, x.look(0, 8)), true);
        T.due("not known then", x.look(0, 5), 0);
        T.refusedCall(x, 6, "look", 0, 6);
        T.due("the other one is", x.look(1, 5), 3);
    }

    private static void cards() {
        T.sentence("Promise 19", "The CARD of a SHEET (0 to 2) (1).");
        KitchenSheets x = new KitchenSheets();
        T.refusedCall(x, 1, "card", 0, 0);
        x = Asked.kitchen();
        x.world(1, 5, 6);
        T.span(x, 0, 4, 0, "card", 0, 1);
        T.span(x, 0, 2, 1, "card", 1, 0);
        T.due("CARDS", x.look(0, 4) * 100 + x.look(1, 4) * 10 + x.look(4, 4), 121);
        T.due("0 is taken back to", x.card(1, 0), true);
        T.due("CARD", x.look(1, 4), 0);
        T.due("its TRUTH stays", x.look(1, 5) * 10 + x.look(1, 6), 31);
    }

    // ---- 20 to 22: ODDS

    private static KitchenSheets sixes(String law, String mind, String more) {
        StringBuilder s = new StringBuilder();
        for (char c = 'a'; c <= 'f'; c++) {
            s.append("ask ").append(c).append(" 2;law ").append(c).append(" ").append(law).append(";");
            s.append("mind ").append(c).append(" ").append(mind).append(";");
        }
        KitchenSheets x = new KitchenSheets();
        T.due("six", Asked.land(x, s + "door 0 0;" + more), 6);
        Asked.sheet(x, 0, 0, 1, 2, 0, 0, 0, 0, 0, 0);
        Asked.sheet(x, 0, 0, 1, 2, 1, 1, 1, 1, 1, 1);
        return x;
    }

    private static void sheetWeights() {
        T.sentence("==== 2.",
            "of all QUESTIONS the WEIGHT of the ANSWER (in the row of that QUESTION's ANSWER, if it goes by one),"
            + " times one another.");
        KitchenSheets x = sixes("16 0", "15 1", "");
        T.due("the most", x.sheetWeight(0, false), 16777216);
        T.due("mind", x.sheetWeight(0, true), 11390625);
        T.due("nothing", x.sheetWeight(1, false), 0);
        T.due("status", x.status(), 0);
        T.due("one", x.sheetWeight(1, true), 1);
        T.span(x, 0, 1, 0, "sheetWeight", 0, 0);
        T.span(x, 0, 1, 0, "sheetWeight", 0, 1);
        Asked.land(x, "ask a 2;ask b 3;ask c 4;law c by a 1 2 3 10 4 5 6 1;mind c by b 2 2 2 10 3 3 3 7 5 5 5 1;door 0 0;");
        Asked.sheet(x, 0, 0, 1, 2, 1, 2, 2);
        T.due("8 by 5 by 6", x.sheetWeight(0, false), 240);
        T.due("8 by 5 by 5", x.sheetWeight(0, true), 200);
        x.alter(0, 0, 0);
        x.alter(0, 1, 0);
        x.alter(0, 2, 3);
        T.due("8 by 6 by 10", x.sheetWeight(0, false), 480);
        T.due("8 by 6 by 10", x.sheetWeight(0, true), 480);
        Asked.land(x, "door 0 0;");
        Asked.sheet(x, 0, 0, 1, 2);
        T.due("of no QUESTIONS", x.sheetWeight(0, false) * 10 + x.sheetWeight(0, true), 11);
    }

    private static void odds() {
        T.sentence("Promise 21", "The FRACTION is ODDS by a SHARE (0 to 16) (1; 6: both weigh 0).");
        KitchenSheets x = sixes("15 1", "13 3", "cards 11 5;");
        T.span(x, 0, 1, 0, "odds", 0, 8);
        T.span(x, 0, 16, 1, "odds", 0, 8);
        T.fraction(x, "0", x.odds(0, 0), 0, 1);
        T.fraction(x, "16", x.odds(0, 16), 1, 1);
        T.fraction(x, "8", x.odds(0, 8), 4826809, 16217434);
        T.fraction(x, "7", x.odds(0, 7), 33787663, 136303288);
        x.card(0, 1);
        T.fraction(x, "7, yes", x.odds(0, 7), 33787663, 259322038);
        T.fraction(x, "1 by 1 and 729", x.odds(1, 8), 729, 730);
        Asked.land(x, "door 0 0;");
        Asked.sheet(x, 0, 0, 1, 2);
        for (int share = 0; share <= 16; share++) {
            int divisor = share == 0 ? 16 : Integer.lowestOneBit(share);
            T.fraction(x, "of no QUESTIONS " + share, x.odds(0, share), share / divisor, 16 / divisor);
        }
    }

    private static void oddsOfNone() {
        T.sentence("Promise 21", "6: both weigh 0");
        KitchenSheets x = new KitchenSheets();
        Asked.land(x, "ask a 3;law a 16 0 0;mind a 0 16 0;door 0 0;cards 16 0;");
        for (int a = 0; a < 3; a++) {
            Asked.sheet(x, 0, 0, 1, 2, a);
        }
        T.fraction(x, "by the LAW alone", x.odds(0, 8), 0, 1);
        T.fraction(x, "by the MIND alone", x.odds(1, 8), 1, 1);
        T.refusedCall(x, 6, "odds", 2, 8);
        T.refusedCall(x, 6, "odds", 0, 16);
        T.fraction(x, "but by 15", x.odds(0, 15), 0, 1);
        T.refusedCall(x, 6, "odds", 1, 0);
        T.fraction(x, "but by 1", x.odds(1, 1), 1, 1);
        T.refusedCall(x, 1, "odds", 2, 17);
        x.card(0, 2);
        T.refusedCall(x, 6, "odds", 0, 8);
        x.card(0, 1);
        T.fraction(x, "asked ones say yes", x.odds(0, 8), 0, 1);
        x.card(1, 1);
        T.refusedCall(x, 6, "odds", 1, 8);
        x.card(1, 2);
        T.fraction(x, "made ones say no", x.odds(1, 8), 1, 1);
    }

    private static void oddsByCards() {
        T.sentence("==== 2.", "A CARD weighs 16 if none came back; else so many of sixteen as say so.");
        KitchenSheets x = new KitchenSheets();
        Asked.land(x, "door 0 0;");
        Asked.sheet(x, 0, 0, 1, 2);
        T.fraction(x, "none came back", x.odds(0, 8), 1, 2);
        x.card(0, 1);
        T.fraction(x, "yes: 2 by 2 and 14", x.odds(0, 8), 1, 8);
        x.card(0, 2);
        T.fraction(x, "no: 14 by 14 and 2", x.odds(0, 8), 7, 8);
        Asked.land(x, "door 0 0;cards 11 3;");
        Asked.sheet(x, 0, 0, 1, 2);
        x.card(0, 1);
        T.fraction(x, "yes: 5 by 3 by 5 by 3 and 11 by 11", x.odds(0, 5), 15, 136);
        x.card(0, 2);
        T.fraction(x, "no: 5 by 13 by 5 by 13 and 11 by 5", x.odds(0, 5), 13, 24);
        Asked.land(x, "door 0 0;cards 0 16;");
        Asked.sheet(x, 0, 0, 1, 2);
        x.card(0, 1);
        T.fraction(x, "only made ones say yes", x.odds(0, 8), 1, 1);
        x.card(0, 2);
        T.fraction(x, "only asked ones say no", x.odds(0, 8), 0, 1);
    }

    private static void halves() {
        T.sentence("==== 2.",
            "HALF of a SHEET from a QUESTION k on (0: all; as many as there are: none): the LAW's WEIGHTS ahead of"
            + " k, the MIND's from it on, times one another, by the same of all k (0 to all) together. (CARDS do not"
            + " count.)");
        KitchenSheets x = new KitchenSheets();
        T.refusedCall(x, 1, "half", 0, 0);
        Asked.land(x, "ask a 2;ask b 2;law a 12 4;mind a 3 13;law b 5 11;door 0 0;");
        Asked.sheet(x, 0, 0, 1, 2, 0, 1);
        T.span(x, 0, 0, 0, "half", 0, 0);
        T.span(x, 0, 2, 1, "half", 0, 0);
        T.fraction(x, "0: 24 by 252", x.half(0, 0), 2, 21);
        T.fraction(x, "1: 96 by 252", x.half(0, 1), 8, 21);
        T.fraction(x, "2: 132 by 252", x.half(0, 2), 11, 21);
        x.card(0, 2);
        T.fraction(x, "CARDS do not count", x.half(0, 2), 11, 21);
        T.sentence("Promise 22", "The FRACTION is HALF from a QUESTION on (1; 6: all weigh 0).");
        Asked.land(x, "ask a 2;ask b 2;law a 0 16;mind b 0 16;door 0 0;");
        Asked.sheet(x, 0, 0, 1, 2, 0, 0);
        Asked.sheet(x, 0, 0, 1, 2, 1, 0);
        for (int k = 0; k <= 2; k++) {
            T.refusedCall(x, 6, "half", 0, k);
        }
        T.refusedCall(x, 1, "half", 0, 3);
        T.fraction(x, "one of them weighs", x.half(1, 2), 1, 1);
        T.fraction(x, "another one does not", x.half(1, 1), 0, 1);
        Asked.land(x, "door 0 0;");
        Asked.sheet(x, 0, 0, 1, 2);
        T.fraction(x, "of no QUESTIONS", x.half(0, 0), 1, 1);
        T.refusedCall(x, 1, "half", 0, 1);
        x = sixes("16 0", "16 0", "");
        T.span(x, 0, 6, 1, "half", 0, 0);
        T.fraction(x, "one of seven", x.half(0, 6), 1, 7);
    }

    // ---- 23 to 25: hours

    private static void ways() {
        T.sentence("==== 2.",
            "STEPS from DOOR to DOOR: as many as X and Y differ together; they take WALK by 10 minutes each, all"
            + " together rounded up.");
        KitchenSheets x = new KitchenSheets();
        T.refusedCall(x, 1, "way", 0, 0);
        String doors = "door 0 0;door 1 0;door 5 5;door 5 6;door 99 99;door 0 99;";
        Asked.land(x, doors + "walk 1;");
        T.span(x, 0, 5, 0, "way", 0, 0);
        T.span(x, 0, 5, 1, "way", 0, 0);
        long[] tenths = {0, 1, 1, 2, 20, 10};
        long[] most = {0, 10, 99, 109, 1961, 981};
        long[] tens = {0, 1, 10, 11, 198, 99};
        ways(x, tenths);
        T.due("up and down", x.way(4, 5), 10);
        T.due("6 and 93", x.way(5, 3), 10);
        T.due("X less, Y more", x.way(2, 5), 10);
        Asked.land(x, doors + "walk 99;");
        ways(x, most);
        Asked.land(x, doors);
        ways(x, tens);
        T.due("X less, Y more", x.way(2, 5), 99);
        Asked.land(x, "door 1 1;");
        T.span(x, 0, 0, 0, "way", 0, 0);
        T.span(x, 0, 0, 1, "way", 0, 0);
    }

    private static void ways(KitchenSheets x, long[] due) {
        for (int i = 0; i < 6; i++) {
            T.due("way to " + i, x.way(0, i), due[i]);
            T.due("and back", x.way(i, 0), due[i]);
            T.due("to itself", x.way(i, i), 0);
        }
    }

    private static void fits() {
        T.sentence("==== 2.",
            "One FITS behind another one, if it begins no sooner than that one's end and the way from DOOR to DOOR.");
        KitchenSheets x = new KitchenSheets();
        Asked.land(x, "door 0 0;door 11 0;walk 1;");
        Asked.sheet(x, 0, 0, 10, 20);
        Asked.sheet(x, 0, 1, 22, 30);
        T.due("just then", x.amiss(0) * 10 + x.walked(0), 3);
        Asked.sheet(x, 1, 0, 10, 20);
        Asked.sheet(x, 1, 1, 21, 30);
        T.due("a minute sooner", x.amiss(1) * 10 + x.walked(1), 14);
        Asked.sheet(x, 2, 1, 10, 20);
        Asked.sheet(x, 2, 1, 20, 30);
        T.due("at one DOOR just then", x.amiss(2) * 100 + x.walked(2), 48);
        Asked.sheet(x, 3, 1, 10, 20);
        Asked.sheet(x, 3, 1, 19, 30);
        T.due("at one DOOR a minute sooner", x.amiss(3) * 1000 + x.walked(3), 1064);
        T.sentence("Promise 25", "How many couples of an ASKER are AMISS (1).");
        T.span(x, 0, 3, 0, "amiss", 0);
        T.sentence("==== 2.",
            "AMISS: couples of SHEETS of an ASKER, of which the later one in ORDER does not FIT behind the other"
            + " one.");
        Asked.land(x, "door 0 0;");
        T.due("of none", x.amiss(0), 0);
        Asked.sheet(x, 0, 0, 0, 1439);
        T.due("of one", x.amiss(0), 0);
        for (int i = 1; i < 16; i++) {
            Asked.sheet(x, 0, 0, 1439 - i, 1439);
        }
        T.due("all couples of sixteen", x.amiss(0), 120);
        Asked.land(x, "door 0 0;");
        Asked.sheet(x, 0, 0, 30, 40);
        Asked.sheet(x, 0, 0, 10, 30);
        Asked.sheet(x, 0, 0, 20, 21);
        Asked.sheet(x, 1, 0, 20, 21);
        T.due("the later one by ORDER, not by number", x.amiss(0), 1);
        T.due("others are not of it", x.amiss(1), 0);
    }

    private static void walks() {
        T.sentence("Promise 24", "WALKED of an ASKER: the set (1).");
        KitchenSheets x = new KitchenSheets();
        T.due("of none", x.walked(3), 0);
        T.due("status", x.status(), 0);
        T.span(x, 0, 3, 0, "walked", 0);
        Asked.land(x, "door 0 0;");
        for (int i = 0; i < 16; i++) {
            Asked.sheet(x, 3, 0, 75 - 5 * i, 80 - 5 * i);
        }
        T.due("all of sixteen", x.walked(3), 65535);
        T.due("another one has none", x.walked(2), 0);
        Asked.land(x, "door 0 0;");
        for (int i = 0; i < 16; i++) {
            Asked.sheet(x, 0, 0, 100 - i, 200);
        }
        T.due("one of sixteen: the first in ORDER", x.walked(0), 32768);
        T.sentence("==== 2.",
            "WALKED: the most SHEETS of an ASKER, in ORDER, each of which FITS behind the one ahead of it there;");
        x = new KitchenSheets();
        Asked.land(x, "door 0 0;");
        Asked.sheet(x, 0, 0, 10, 50);
        Asked.sheet(x, 0, 0, 20, 30);
        Asked.sheet(x, 0, 0, 30, 40);
        T.due("two with the last one, not the first one alone", x.walked(0), 6);
        Asked.land(x, "door 0 0;door 50 0;");
        Asked.sheet(x, 0, 0, 10, 20);
        Asked.sheet(x, 0, 1, 30, 40);
        Asked.sheet(x, 0, 0, 45, 46);
        Asked.sheet(x, 0, 0, 46, 47);
        T.due("the longer one, though the far DOOR is ahead", x.walked(0), 13);
        Asked.sheet(x, 0, 1, 97, 100);
        T.due("and what FITS behind that", x.walked(0), 29);
        Asked.sheet(x, 0, 1, 96, 97);
        T.due("a minute too soon for it", x.walked(0), 29);
    }

    private static void walkTies() {
        T.sentence("==== 2.", "SHEETS of an ASKER stand in ORDER of their beginning, then number.");
        KitchenSheets x = new KitchenSheets();
        Asked.land(x, "door 0 0;");
        Asked.sheet(x, 0, 0, 20, 30);
        Asked.sheet(x, 0, 0, 20, 25);
        T.due("of one beginning the first by number", x.walked(0), 1);
        Asked.sheet(x, 0, 0, 19, 40);
        T.due("one that begins sooner", x.walked(0), 4);
        T.sentence("==== 2.", "of several the one whose first SHEET stands first in ORDER, then whose second, and so on.");
        Asked.sheet(x, 0, 0, 40, 50);
        T.due("first: 2, though 0 FITS too", x.walked(0), 12);
        Asked.sheet(x, 0, 0, 40, 45);
        T.due("second: 3, not 4, by number", x.walked(0), 12);
        Asked.sheet(x, 0, 0, 50, 60);
        Asked.sheet(x, 0, 0, 45, 47);
        Asked.sheet(x, 0, 0, 47, 48);
        T.due("2, 4, 6, 7, 5 is longer than 2, 3, 5", x.walked(0), 4 + 16 + 64 + 128 + 32);
        Asked.sheet(x, 0, 0, 39, 45);
        T.due("0, 8, 6, 7, 5 is as long, but 2 stands ahead of 0", x.walked(0), 4 + 16 + 64 + 128 + 32);
        Asked.sheet(x, 0, 0, 30, 40);
        T.due("0, 9, 4, 6, 7, 5 is longer", x.walked(0), 1 + 512 + 16 + 64 + 128 + 32);
        Asked.sheet(x, 0, 0, 48, 49);
        Asked.sheet(x, 0, 0, 48, 49);
        T.due("of 10 and 11 the first by number", x.walked(0), 1 + 512 + 16 + 64 + 128 + 1024 + 32);
    }

    // ---- 26 to 33: together

    private static void groups() {
        T.sentence("Promise 26", "GROUP of an ASKER by d, what 0: how many, 1: the SHEET (1; 6: it has none).");
        KitchenSheets x = new KitchenSheets();
        Asked.land(x, SIX + "door 0 0;");
        T.refusedCall(x, 6, "group", 0, 0, 0);
        for (int i = 0; i < 7; i++) {
            long[] sheet = {1, 0, 100 - i, 200, 0, 0, 0, 0, 0, 0};
            for (int q = 0; q < i; q++) {
                sheet[4 + q] = 1;
            }
            Asked.sheet(x, sheet);
        }
        T.span(x, 0, 3, 0, "group", 1, 0, 0);
        T.span(x, 0, 6, 1, "group", 1, 0, 0);
        T.span(x, 0, 1, 2, "group", 1, 0, 0);
        T.refusedCall(x, 6, "group", 0, 6, 1);
        T.refusedCall(x, 1, "group", 0, 7, 0);
        T.refusedCall(x, 1, "group", 0, 0, 2);
        T.sentence("==== 2.", "ALIKE by d (0 to 6) are two SHEETS that differ in at most d ANSWERS.");
        T.sentence("==== 2.",
            "GROUP of an ASKER by d: of its SHEETS the one to which most of them are ALIKE by d (itself, too), the"
            + " first.");
        int[][] due = {{1, 0}, {3, 1}, {5, 2}, {7, 3}, {7, 2}, {7, 1}, {7, 0}};
        for (int d = 0; d <= 6; d++) {
            T.due("how many by " + d, x.group(1, d, 0), due[d][0]);
            T.due("which by " + d, x.group(1, d, 1), due[d][1]);
        }
        Asked.sheet(x, 0, 0, 1, 2, 0, 0, 0, 0, 0, 0);
        T.due("another's counts for none", x.group(1, 0, 0) * 10 + x.group(0, 6, 0), 11);
        T.due("which", x.group(0, 6, 1), 7);
        Asked.land(x, "door 0 0;");
        Asked.sheet(x, 0, 0, 2, 3);
        Asked.sheet(x, 0, 0, 1, 2);
        T.due("without QUESTIONS all are ALIKE", x.group(0, 0, 0) * 10 + x.group(0, 0, 1), 20);
    }

    private static void twins() {
        T.sentence("==== 2.", "TWINS: the CHANCE that two rows of ANSWERS drawn by the LAW are the same.");
        KitchenSheets x = new KitchenSheets();
        T.fraction(x, "of no QUESTIONS", x.twins(), 1, 1);
        x = sixes("15 1", "16 0", "");
        T.fraction(x, "226 by 256, six times", x.twins(), 2081951752609L, 4398046511104L);
        x = sixes("16 0", "8 8", "");
        T.fraction(x, "sure", x.twins(), 1, 1);
        Asked.land(x, "ask a 4;ask b 4;ask c 4;ask d 4;ask e 4;ask f 4;");
        T.fraction(x, "the least", x.twins(), 1, 4096);
        Asked.land(x, "ask a 3;law a 0 0 16;ask b 3;law b by a 16 0 0 0 16 0 1 5 10;");
        T.fraction(x, "only the row of a's last ANSWER", x.twins(), 63, 128);
        Asked.land(x, "ask a 2;law a 1 15;ask b 2;law b by a 16 0 8 8;mind b 16 0;");
        T.fraction(x, "256 and twice 14,400 by 65,536", x.twins(), 227, 512);
    }

    private static void strange() {
        T.sentence("Promise 28", "The FRACTION is the CHANCE of STRANGE by t (0 to 99,999,999) (1).");
        KitchenSheets x = sixes("15 1", "16 0", "");
        T.span(x, 0, 99999999, 0, "strange", 0);
        T.sentence("==== 2.", "STRANGE by t: the CHANCE that a row drawn by the LAW has a WEIGHT less than t.");
        T.fraction(x, "0", x.strange(0), 0, 1);
        T.fraction(x, "1", x.strange(1), 0, 1);
        T.fraction(x, "2", x.strange(2), 1, 16777216);
        T.fraction(x, "15", x.strange(15), 1, 16777216);
        T.fraction(x, "16", x.strange(16), 91, 16777216);
        T.fraction(x, "just not the last one", x.strange(11390625), 16777216 - 11390625, 16777216);
        T.fraction(x, "all", x.strange(11390626), 1, 1);
        T.fraction(x, "the last t", x.strange(99999999), 1, 1);
        x = sixes("16 0", "8 8", "");
        T.fraction(x, "the most that a row weighs", x.strange(16777216), 0, 1);
        T.fraction(x, "one more", x.strange(16777217), 1, 1);
        x = new KitchenSheets();
        T.fraction(x, "of no QUESTIONS: it weighs 1", x.strange(1), 0, 1);
        T.fraction(x, "less than 2", x.strange(2), 1, 1);
        for (int i = 0; i < 3; i++) {
            Asked.land(x, "ask a 4;law a 1 2 3 10;ask b 4;law b by a 1 1 1 13 1 1 1 13 1 1 1 13 1 1 1 13;");
            T.fraction(x, "all rows of a wide LAND", x.strange(131), 1, 1);
            T.fraction(x, "all but the last one", x.strange(130), 63, 128);
        }
        Asked.land(x, "ask a 2;ask b 2;");
        T.fraction(x, "all rows of a narrow one behind it", x.strange(65), 1, 1);
        T.fraction(x, "none of them", x.strange(64), 0, 1);
        T.fraction(x, "its TWINS", x.twins(), 1, 4);
        Asked.land(x, "ask a 2;law a 4 12;ask b 2;law b by a 16 0 2 14;");
        T.fraction(x, "24 is not less", x.strange(24), 0, 1);
        T.fraction(x, "24", x.strange(25), 3, 32);
        T.fraction(x, "24 and 64", x.strange(65), 11, 32);
    }

    private static void goes() {
        T.sentence("Promise 29", "The FRACTION is GOES (1: q and r one and the same, too; 6: no such couple).");
        KitchenSheets x = new KitchenSheets();
        T.refusedCall(x, 1, "goes", 0, 0, 1);
        x = Asked.kitchen();
        T.span(x, 0, 3, 0, "goes", 0, 0, 1);
        for (int wrong : new int[] {-1, 2, MIN, MAX}) {
            T.refusedCall(x, 1, "goes", 0, wrong, 0);
            T.refusedCall(x, 1, "goes", 0, wrong, 1);
            T.refusedCall(x, 1, "goes", 0, 0, wrong);
            T.refusedCall(x, 1, "goes", 0, 1, wrong);
            T.refusedCall(x, 1, "goes", 0, wrong, wrong);
        }
        T.refusedCall(x, 1, "goes", 0, 0, 0);
        T.refusedCall(x, 1, "goes", 0, 1, 1);
        T.refusedCall(x, 1, "goes", 2, 1, 1);
        T.refusedCall(x, 6, "goes", 1, 0, 1);
        T.refusedCall(x, 6, "goes", 3, 1, 0);
        T.sentence("==== 2.",
            "GOES of q and r for an ASKER: of all couples of its SHEETS with the same ANSWER to q how many have the"
            + " same to r: a FRACTION.");
        T.fraction(x, "of three one", x.goes(0, 0, 1), 1, 3);
        T.fraction(x, "of two one", x.goes(0, 1, 0), 1, 2);
        Asked.sheet(x, 1, 1, 1, 2, 1, 1);
        T.fraction(x, "none of one", x.goes(1, 0, 1), 0, 1);
        T.refusedCall(x, 6, "goes", 1, 1, 0);
        Asked.sheet(x, 1, 1, 1, 2, 1, 1);
        T.fraction(x, "all", x.goes(1, 1, 0), 1, 1);
        T.fraction(x, "of three one", x.goes(1, 0, 1), 1, 3);
    }

    private static void numbers() {
        T.sentence("Promise 30", "The FRACTION is NUMBER (1; 6: an empty set).");
        KitchenSheets x = Asked.kitchen();
        T.span(x, 0, 1, 0, "number", 0, 0, 1);
        T.span(x, 0, 1, 1, "number", 0, 0, 1);
        T.span(x, 0, 31, 2, "number", 0, 0, 1);
        T.refusedCall(x, 6, "number", 0, 0, 0);
        T.refusedCall(x, 1, "number", 2, 0, 0);
        T.refusedCall(x, 1, "number", 0, 2, 0);
        T.refusedCall(x, 1, "number", 0, 0, 33);
        T.refusedCall(x, 1, "number", 0, 0, MIN + 1);
        T.sentence("==== 2.",
            "NUMBER of an ANSWER to a QUESTION over a set of SHEETS (1 for SHEET 0, 2 for 1 ..): how many have it,"
            + " by how many they are.");
        T.fraction(x, "SHEET 0", x.number(0, 0, 1), 1, 1);
        T.fraction(x, "SHEET 1", x.number(0, 0, 2), 0, 1);
        T.fraction(x, "SHEET 4, the last one", x.number(0, 1, 16), 1, 1);
        T.fraction(x, "1 and 2", x.number(1, 1, 6), 1, 1);
        T.fraction(x, "all", x.number(1, 1, 31), 2, 5);
        Asked.land(x, "ask a 3;door 0 0;");
        T.refusedCall(x, 6, "number", 0, 0, 0);
        T.refusedCall(x, 1, "number", 0, 0, 1);
        for (int i = 0; i < 16; i++) {
            Asked.sheet(x, 0, 0, 1, 2, i == 15 ? 2 : 0);
        }
        T.span(x, 0, 65535, 2, "number", 0, 0, 1);
        T.fraction(x, "the sixteenth", x.number(0, 2, 32768), 1, 1);
        T.fraction(x, "all sixteen", x.number(0, 2, 65535), 1, 16);
        T.span(x, 0, 2, 1, "number", 0, 0, 1);
    }

    private static void bounds() {
        T.sentence("==== 2.",
            "BOUNDS of so many: the least and the most that it can be over all, if so many SHEETS (fewer than there"
            + " are) are left out.");
        KitchenSheets x = new KitchenSheets();
        T.refusedCall(x, 1, "bounds", 0, 0, 0, 0);
        Asked.land(x, "ask a 3;ask b 2;door 0 0;");
        T.refusedCall(x, 1, "bounds", 0, 0, 0, 0);
        for (int i = 0; i < 16; i++) {
            Asked.sheet(x, 0, 0, 1, 2, i < 10 ? 1 : 0, 0);
        }
        T.span(x, 0, 15, 2, "bounds", 0, 1, 0, 0);
        T.span(x, 0, 15, 2, "bounds", 0, 1, 0, 1);
        T.span(x, 0, 1, 0, "bounds", 0, 1, 3, 1);
        T.span(x, 0, 2, 1, "bounds", 0, 1, 3, 0);
        T.span(x, 0, 1, 1, "bounds", 1, 1, 3, 0);
        int[][] due = {{0, 5, 8, 5, 8}, {1, 3, 5, 2, 3}, {5, 5, 11, 10, 11}, {6, 2, 5, 1, 1}, {7, 1, 3, 1, 1}, {9, 1, 7, 1, 1},
            {10, 0, 1, 1, 1}, {15, 0, 1, 1, 1}};
        for (int[] d : due) {
            T.fraction(x, "least without " + d[0], x.bounds(0, 1, d[0], false), d[1], d[2]);
            T.fraction(x, "most without " + d[0], x.bounds(0, 1, d[0], true), d[3], d[4]);
        }
        T.fraction(x, "an ANSWER that none has", x.bounds(0, 2, 15, true), 0, 1);
        T.fraction(x, "one that all have", x.bounds(1, 0, 15, false), 1, 1);
    }

    private static void unlike() {
        T.sentence("Promise 32", "How many unlike rows of ANSWERS the SHEETS of an ASKER have (1).");
        KitchenSheets x = new KitchenSheets();
        T.due("of none", x.unlike(0), 0);
        T.span(x, 0, 3, 0, "unlike", 0);
        Asked.land(x, "ask a 4;ask b 4;door 0 0;");
        for (int i = 0; i < 16; i++) {
            Asked.sheet(x, 2, 0, 1, 2, i / 4, i % 4);
        }
        T.due("all of sixteen", x.unlike(2), 16);
        x.alter(15, 1, 2);
        T.due("the last as the one ahead", x.unlike(2), 15);
        x.alter(15, 0, 0);
        x.alter(15, 1, 0);
        T.due("the last as the first", x.unlike(2), 15);
        for (int i = 0; i < 16; i++) {
            x.alter(i, 0, 0);
            x.alter(i, 1, 3);
        }
        T.due("all the same", x.unlike(2), 1);
        T.due("another one has none", x.unlike(3), 0);
        Asked.land(x, "ask a 2;door 0 0;");
        Asked.sheet(x, 0, 0, 1, 2, 1);
        Asked.sheet(x, 1, 0, 1, 2, 1);
        T.due("the same row of another ASKER counts there", x.unlike(0) * 10 + x.unlike(1), 11);
        Asked.land(x, "door 0 0;");
        Asked.sheet(x, 0, 0, 1, 2);
        Asked.sheet(x, 0, 0, 3, 4);
        T.due("without QUESTIONS", x.unlike(0), 1);
    }

    private static void doubtful() {
        T.sentence("Promise 33",
            "The set of SHEETS whose ODDS by a SHARE are so many (0 to 16) of sixteen or more (none whose both"
            + " weigh 0) (1).");
        KitchenSheets x = new KitchenSheets();
        T.due("of none", x.doubtful(8, 0), 0);
        T.span(x, 0, 16, 0, "doubtful", 0, 8);
        T.span(x, 0, 16, 1, "doubtful", 8, 0);
        Asked.land(x, "ask a 2;door 0 0;");
        Asked.sheet(x, 0, 0, 1, 2, 0);
        for (int share = 0; share <= 16; share++) {
            T.due("just so many " + share, x.doubtful(share, share), 1);
            if (share < 16) {
                T.due("one more " + share, x.doubtful(share, share + 1), 0);
            }
        }
        Asked.land(x, "ask a 3;law a 16 0 0;mind a 0 16 0;door 0 0;");
        for (int i = 0; i < 16; i++) {
            Asked.sheet(x, 0, 0, 1, 2, i % 3);
        }
        T.due("0 of sixteen, but none whose both weigh 0", x.doubtful(8, 0), 0xb6db);
        T.due("16 of sixteen", x.doubtful(8, 16), 0x2492);
        T.due("by 16 only the MIND weighs", x.doubtful(16, 0), 0x2492);
        T.due("by 0 only the LAW weighs", x.doubtful(0, 0), 0x9249);
        T.due("of those 1 of sixteen", x.doubtful(0, 1), 0);
        Asked.land(x, "ask a 2;law a 5 11;mind a 3 13;door 0 0;");
        Asked.sheet(x, 0, 0, 1, 2, 0);
        x.card(0, 2);
        T.due("42 by 52 is 12 of sixteen and more", x.doubtful(8, 12), 1);
        T.due("but less than 13", x.doubtful(8, 13), 0);
        Asked.land(x, "ask a 2;law a 0 16;mind a 1 15;door 0 0;cards 0 1;");
        Asked.sheet(x, 0, 0, 1, 2, 0);
        x.card(0, 1);
        T.due("1 by 1 and 0: the least that they can weigh", x.doubtful(1, 16), 1);
        T.fraction(x, "its ODDS", x.odds(0, 1), 1, 1);
        T.due("CHECKED by it", x.checked(1, 1), 1);
        T.due("what it is worth", x.found(), 4096);
    }
}
