/** For each promise of the document ordinary calls, the edges that it names, and wrong ones; worked out by hand. */
public final class PromisesTest {
    private static final Asked T = new Asked();

    public static void main(String[] args) {
        newObject();
        trays();
        pouring();
        feeding();
        landReading();
        landFaults();
        landFaultsOfWeights();
        rulesReading();
        rulesFaults();
        faultTelling();
        landTelling();
        sheetTaking();
        lookingAndAltering();
        cards();
        oddsOfSheets();
        halves();
        hours();
        walks();
        groups();
        chances();
        couples();
        numbers();
        doubts();
        tests();
        flags();
        hiding();
        hiddenKept();
        worths();
        checks();
        worlds();
        scores();
        markKeeping();
        markLimits();
        T.end("PromisesTest");
    }

    private static KitchenSheets with(String rules) {
        KitchenSheets x = Asked.kitchen();
        Asked.rules(x, rules);
        return x;
    }

    private static void newObject() {
        T.about("1 a new object, 2 status, 3 top, 4 bottom");
        KitchenSheets x = new KitchenSheets();
        T.due("status", x.status(), 0);
        T.due("top", x.top(), 0);
        T.due("bottom", x.bottom(), 1);
        long[] told = {0, 0, 0, 0, 10, 14, 2};
        for (int what = 0; what < 7; what++) {
            T.due("told " + what, x.told(what), told[what]);
        }
        for (int tray = 0; tray < 4; tray++) {
            T.refused(x, "read", x.read(tray, 0), 2);
        }
        T.refused(x, "land of more than the tape has", x.land(1), 1);
        T.refused(x, "back", x.back(), 6);
        T.due("feed leaves status", x.feed(1, 2, 3, 4, 5), 20);
        T.due("status", x.status(), 6);
        T.due("NONE", KitchenSheets.NONE, -1);
    }

    private static void trays() {
        T.about("5 tray, 6 write, 7 read");
        KitchenSheets x = new KitchenSheets();
        int[][] wrong = {{-1, 0, 1}, {4, 0, 1}, {0, -1, 1}, {0, 4, 1}, {0, 0, -1}, {0, 0, 61}};
        for (int[] w : wrong) {
            T.refused(x, "tray status", x.read(0, 0), 2);
            T.due("tray", x.tray(w[0], w[1], w[2]), false);
            T.due("tray status", x.status(), 1);
        }
        T.due("tray of none", x.tray(0, 0, 0), true);
        T.refused(x, "read of none", x.read(0, 0), 3);
        T.due("tray of 60", x.tray(0, 0, 60), true);
        T.due("read 59", x.read(0, 59), 0);
        T.refused(x, "read 60", x.read(0, 60), 3);
        T.refused(x, "read below 0", x.read(0, -1), 3);
        T.refused(x, "no such tray", x.read(4, 0), 1);
        T.refused(x, "no such tray", x.write(-1, 0, 7), 1);
        T.refused(x, "missing", x.write(1, 0, 7), 2);
        T.refused(x, "write 60", x.write(0, 60, 7), 3);
        T.refused(x, "write below 0", x.write(0, -1, 7), 3);
        long[][] cut = {{0, 127, 127}, {0, 128, -128}, {0, 511, -1}, {1, 65535, -1}, {1, 32768, -32768}, {1, 70000, 4464},
            {2, 1L << 31, Integer.MIN_VALUE}, {2, -1, -1}, {3, Long.MIN_VALUE, Long.MIN_VALUE}, {3, -1, -1}};
        for (long[] c : cut) {
            T.due("tray", x.tray(2, (int) c[0], 3), true);
            T.due("write", x.write(2, 1, c[1]), true);
            T.due("read of sort " + c[0], x.read(2, 1), c[2]);
            T.due("read status", x.status(), 0);
            T.due("read beside", x.read(2, 0) + x.read(2, 2), 0);
        }
        T.due("write", x.write(2, 0, 9), true);
        T.due("laid anew", x.tray(2, 3, 3), true);
        T.due("read", x.read(2, 0), 0);
    }

    private static void pouring() {
        T.about("8 pour");
        KitchenSheets x = new KitchenSheets();
        x.tray(0, 1, 5);
        x.tray(1, 1, 3);
        x.tray(2, 2, 5);
        for (int i = 0; i < 5; i++) {
            x.write(0, i, i + 1);
        }
        T.refused(x, "no such", x.pour(4, 0, 3, 0, 0), 1);
        T.refused(x, "no such", x.pour(3, 0, -1, 0, 0), 1);
        T.refused(x, "below 0 ahead of missing", x.pour(3, -1, 0, 0, 0), 1);
        T.refused(x, "below 0", x.pour(0, 0, 1, -1, 0), 1);
        T.refused(x, "below 0", x.pour(0, 0, 1, 0, -1), 1);
        T.refused(x, "missing", x.pour(3, 0, 0, 0, 1), 2);
        T.refused(x, "missing ahead of too few", x.pour(0, 99, 3, 0, 1), 2);
        T.refused(x, "unlike ahead of too few", x.pour(0, 99, 2, 0, 1), 8);
        T.refused(x, "too few to take", x.pour(0, 3, 1, 0, 3), 3);
        T.refused(x, "too few to come to", x.pour(0, 0, 1, 1, 3), 3);
        T.refused(x, "far too many", x.pour(0, 1, 1, 1, Integer.MAX_VALUE), 3);
        T.refused(x, "far behind", x.pour(0, Integer.MAX_VALUE, 1, 0, 1), 3);
        T.due("none, just behind", x.pour(0, 5, 1, 3, 0), true);
        T.refused(x, "none, farther", x.pour(0, 6, 1, 0, 0), 3);
        T.refused(x, "none, farther", x.pour(0, 0, 1, 4, 0), 3);
        T.due("pour", x.pour(0, 2, 1, 0, 3), true);
        T.due("poured", x.read(1, 0) * 100 + x.read(1, 1) * 10 + x.read(1, 2), 345);
        T.due("on itself, up", x.pour(0, 0, 0, 1, 4), true);
        T.due("as they were", x.read(0, 0) * 10000 + x.read(0, 1) * 1000 + x.read(0, 2) * 100 + x.read(0, 3) * 10 + x.read(0, 4), 11234);
        T.due("on itself, down", x.pour(0, 2, 0, 0, 3), true);
        T.due("as they were", x.read(0, 0) * 10000 + x.read(0, 1) * 1000 + x.read(0, 2) * 100 + x.read(0, 3) * 10 + x.read(0, 4), 23434);
    }

    private static void feeding() {
        T.about("9 feed");
        KitchenSheets x = new KitchenSheets();
        for (int i = 1; i <= 35; i++) {
            T.due("feed", x.feed(0x20202020, 0x20202020, 0x20202020, 0x20202020, 0x20202020), 20 * i);
        }
        T.due("feed above 700", x.feed(0, 0, 0, 0, 0), -1);
        T.due("rules above 300", x.rules(301), -1);
        T.due("status", x.status(), 1);
        T.due("land of all", x.land(700), 0);
        T.due("land of the empty tape", x.land(0), 0);
        T.due("feed", x.feed(0x64202020, 0, 0, 0, 0), 20);
        T.refused(x, "highest first", x.land(4), 9);
        T.due("place", x.fault(1), 0);
        Asked.feed(x, "   d");
        T.refused(x, "lowest last", x.land(4), 9);
        T.due("place", x.fault(1), 3);
        x.feed(0x20202020, 0x20202020, 0x20202020, 0x20202020, 0x20202080);
        T.refused(x, "the last of twenty", x.land(20), 9);
        T.due("kind", x.fault(0), 1);
        T.due("place", x.fault(1), 19);
    }

    private static void landReading() {
        T.about("10 land");
        KitchenSheets x = Asked.kitchen();
        Asked.rules(x, "flag amiss;");
        x.mark();
        Asked.feed(x, "ask a 4;");
        T.refused(x, "below 0", x.land(-1), 1);
        T.refused(x, "more than the tape has", x.land(21), 1);
        T.due("SHEETS are still there", x.told(2), 5);
        T.due("the tape too", x.land(8), 1);
        T.due("it is empty then", x.feed(0, 0, 0, 0, 0), 20);
        T.due("DOORS", x.told(1), 0);
        T.due("no SHEETS then", x.told(2), 0);
        T.due("RULES stay", x.told(3), 1);
        T.due("WALK", x.told(4), 10);
        T.due("CARDS", x.told(5) * 100 + x.told(6), 1402);
        T.refused(x, "a fault", x.land(20), 9);
        T.due("the old one stays", x.told(0), 1);
        T.due("the tape is empty", x.feed(0, 0, 0, 0, 0), 20);
        T.due("land of nothing", x.land(0), 0);
        T.due("close together", Asked.land(x, "ask a2;ask\nb  3 ;law b by a8 8 0\n0 0 0016;door 1 2;door 99 0;walk99;cards0 16;"), 2);
        T.due("told", x.told(1) * 1000000 + x.told(4) * 10000 + x.told(5) * 100 + x.told(6), 2990016);
        T.due("weight", x.weight(1, false, 1, 2), 16);
        T.due("from a to z", Asked.land(x, "ask az 2;ask azz 2;law az 15 1;walk 1;"), 2);
        T.due("walk 1", x.told(4), 1);
        T.due("words of RULES are names", Asked.land(x, "ask flag 2;ask or 3;ask abcdefgh 4;mind or by flag 16 0 0 0 0 16;"), 3);
        T.due("six", Asked.land(x, "ask a 2;ask b 2;ask c 2;ask d 2;ask e 2;ask f 2;"), 6);
        StringBuilder doors = new StringBuilder();
        for (int i = 0; i < 16; i++) {
            doors.append("door ").append(i).append(" 9;");
        }
        T.due("sixteen doors", Asked.land(x, doors.toString()), 0);
        T.due("sixteen doors", x.told(1), 16);
    }

    private static void fault(String text, int kind, int place) {
        KitchenSheets x = new KitchenSheets();
        T.refused(x, text, Asked.land(x, text), 9);
        T.due(text + " kind", x.fault(0), kind);
        T.due(text + " place", x.fault(1), place);
    }

    private static void landFaults() {
        T.about("10 land, 12 fault");
        fault("ask a 2;\task b 2;", 1, 8);
        fault("ask a 2;Ask b 2;", 1, 8);
        fault("ask a ~;", 1, 6);
        fault("ask a 12345;", 1, 6);
        fault("12345", 1, 0);
        fault("1234", 2, 0);
        fault(";", 2, 0);
        fault("ask a (", 2, 6);
        fault("ask", 2, 3);
        fault("ask  ", 2, 5);
        fault("ask a 2", 2, 7);
        fault("ask a 2 2;", 2, 8);
        fault("ask a;", 2, 5);
        fault("ask 2 2;", 2, 4);
        fault("ask by 2;", 2, 4);
        fault("ask cards 2;", 2, 4);
        fault("ask abcdefghi 2;", 2, 4);
        fault("ask a 2;by a 16;", 2, 8);
        fault("flag amiss;", 2, 0);
        fault("walk a;", 2, 5);
        fault("door 1;", 2, 6);
        fault("cards 1 2 3;", 2, 10);
        fault("ask a 2;ask a 3;", 3, 12);
        fault("ask a 2;law b 8 8;", 3, 12);
        fault("ask a 2;mind b 8 8;", 3, 13);
        fault("law a 8 8;ask a 2;", 3, 4);
        fault("ask a 2;ask b 2;law a by b 8 8 8 8;", 3, 25);
        fault("ask a 2;law a by a 8 8 8 8;", 3, 17);
        fault("ask a 2;law a by c 8 8 8 8;", 3, 17);
        fault("ask a 1;", 4, 6);
        fault("ask a 5;", 4, 6);
        fault("door 0 100;", 4, 7);
        fault("walk 0;", 4, 5);
        fault("walk 100;", 4, 5);
        fault("cards 0 17;", 4, 8);
        fault("walk 9;walk 9;", 5, 7);
        fault("cards 1 1;walk 9;cards 1 1;", 5, 17);
        fault("ask a 2;mind a 8 8;mind a by a 8;", 5, 24);
        fault("ask a 2;ask b 2;ask c 2;ask d 2;ask e 2;ask f 2;ask f 9;", 6, 48);
        StringBuilder doors = new StringBuilder();
        for (int i = 0; i < 17; i++) {
            doors.append("door 1 1;");
        }
        fault(doors.toString(), 6, 144);
    }

    private static void landFaultsOfWeights() {
        T.about("10 land, 12 fault: WEIGHTS");
        fault("ask a 2;law a ;", 2, 14);
        fault("ask a 2;law a 8 b;", 2, 16);
        fault("ask a 2;law a 8", 2, 15);
        fault("ask a 2;law a 8 8", 2, 17);
        fault("ask a 2;law a 17 0;", 4, 14);
        fault("ask a 2;law a 0 17;", 4, 16);
        fault("ask a 2;law a 8 8 17;", 4, 18);
        fault("ask a 2;law a 8 8 12345;", 1, 18);
        fault("ask a 2;law a 8 8 16;", 6, 18);
        fault("ask a 2;law a 8;", 7, 15);
        fault("ask a 2;ask b 2;law b by a 8 8;", 7, 30);
        fault("ask a 2;ask b 2;law b by a 8 8 8;", 7, 32);
        fault("ask a 2;law a 8 9;", 8, 16);
        fault("ask a 3;law a 0 1 14;", 8, 18);
        fault("ask a 2;ask b 2;law b by a 8 8 8 7 ~", 8, 33);
    }

    private static void rulesReading() {
        T.about("11 rules");
        KitchenSheets x = Asked.kitchen();
        T.due("none", x.rules(0), 0);
        T.due("rules", Asked.rules(x, "flag amiss;flag(same 9999and not short0)or made16 ;\nflag card 2 ; flag rare 0;"), 4);
        Asked.feed(x, "flag amiss;");
        T.refused(x, "below 0", x.rules(-1), 1);
        T.refused(x, "more than the tape has", x.rules(21), 1);
        T.due("they stay", x.told(3), 4);
        T.due("the tape too", x.rules(11), 1);
        T.refused(x, "a fault", Asked.rules(x, "flag"), 9);
        T.due("the old ones stay", x.flagged(0), 6);
        T.due("the tape is empty", x.feed(0, 0, 0, 0, 0), 20);
        T.due("none is none", x.rules(0), 0);
        T.refused(x, "flagged", x.flagged(0), 1);
        StringBuilder long300 = new StringBuilder("flag amiss;");
        while (long300.length() < 300) {
            long300.append(' ');
        }
        T.due("300 bytes", Asked.rules(x, long300.toString()), 1);
        T.due("301 bytes", Asked.rules(x, long300 + " "), -1);
        T.due("status", x.status(), 1);
    }

    private static void ruleFault(String text, int kind, int place) {
        KitchenSheets x = new KitchenSheets();
        T.refused(x, text, Asked.rules(x, text), 9);
        T.due(text + " kind", x.fault(0), kind);
        T.due(text + " place", x.fault(1), place);
    }

    private static void rulesFaults() {
        T.about("11 rules, 12 fault");
        ruleFault("flag amiss!", 1, 10);
        ruleFault("flag same 10000;", 1, 10);
        ruleFault("amiss;", 2, 0);
        ruleFault("flag;", 2, 4);
        ruleFault("flag amiss", 2, 10);
        ruleFault("flag amiss 3;", 2, 11);
        ruleFault("flag amiss);", 2, 10);
        ruleFault("flag (amiss;", 2, 11);
        ruleFault("flag ();", 2, 6);
        ruleFault("flag amiss and or amiss;", 2, 15);
        ruleFault("flag not;", 2, 8);
        ruleFault("flag same;", 2, 9);
        ruleFault("flag same x;", 2, 10);
        ruleFault("flag cards 1;", 2, 5);
        ruleFault("flag made 17;", 4, 10);
        ruleFault("flag card 3;", 4, 10);
        String nots = "flag not not not not not not not not ";
        ruleFault(nots + "amiss;", 5, 37);
        ruleFault(nots + "not amiss;", 5, 37);
        ruleFault(nots + "(amiss);", 5, 37);
        ruleFault(nots + ";", 2, 37);
        ruleFault("flag ((((((((amiss))))))));", 5, 13);
        ruleFault("flag (((amiss or (((((amiss)))))or amiss)));", 5, 22);
        ruleFault("flag amiss;flag amiss;flag amiss;flag amiss;flag x;", 6, 44);
        KitchenSheets x = new KitchenSheets();
        T.due("seven", Asked.rules(x, "flag not not not not not not not amiss and (((((((amiss)))))));"), 1);
        T.due("beside, not within", Asked.rules(x, "flag not (not (not amiss)) and not (not (not amiss)) and not (not (not amiss));"), 1);
    }

    private static void faultTelling() {
        T.about("12 fault");
        KitchenSheets x = new KitchenSheets();
        T.due("ahead of any", x.fault(0), -1);
        T.due("ahead of any", x.fault(1), -1);
        Asked.feed(x, "ask a 5;");
        x.land(99);
        T.due("STATUS 1 is none", x.fault(0), -1);
        x.land(8);
        T.due("kind", x.fault(0), 4);
        T.due("place", x.fault(1), 6);
        T.due("others", x.fault(2), -1);
        T.due("others", x.fault(-1), -1);
        x.land(99);
        x.rules(-1);
        T.due("it stays", x.fault(0), 4);
        T.due("status is of rules", x.status(), 1);
        x.rules(0);
        T.due("without", x.fault(0), 0);
        T.due("without", x.fault(1), -1);
    }

    private static void landTelling() {
        T.about("13 told, 14 question, 15 weight");
        KitchenSheets x = Asked.kitchen();
        long[] told = {2, 3, 5, 0, 5, 12, 4};
        for (int what = 0; what < 7; what++) {
            T.due("told " + what, x.told(what), told[what]);
        }
        T.refused(x, "told", x.told(7), 1);
        T.refused(x, "told", x.told(-1), 1);
        T.due("many", Asked.land(x, "ask a 3;ask b 4;ask c 2;law c by b 16 0 15 1 14 2 13 3;mind c by a 1 15 2 14 3 13;"), 3);
        T.due("answers", x.question(0, 0) * 100 + x.question(1, 0) * 10 + x.question(2, 0), 342);
        T.due("law by", x.question(2, 1), 1);
        T.due("mind by", x.question(2, 2), 0);
        T.refused(x, "by none", x.question(0, 1), 6);
        T.refused(x, "by none", x.question(1, 2), 6);
        T.refused(x, "no such", x.question(3, 0), 1);
        T.refused(x, "no such", x.question(-1, 0), 1);
        T.refused(x, "what", x.question(0, 3), 1);
        T.refused(x, "what", x.question(0, -1), 1);
        long[] three = {6, 5, 5};
        for (int a = 0; a < 3; a++) {
            T.due("shared out", x.weight(0, false, 0, a), three[a]);
            T.due("shared out", x.weight(0, true, 0, a), three[a]);
        }
        T.due("shared out by four", x.weight(1, true, 0, 3), 4);
        T.due("law", x.weight(2, false, 3, 0), 13);
        T.due("mind", x.weight(2, true, 2, 1), 13);
        T.refused(x, "a row too far", x.weight(2, true, 3, 0), 1);
        T.refused(x, "a row too far", x.weight(2, false, 4, 0), 1);
        T.refused(x, "by none", x.weight(0, false, 1, 0), 1);
        T.refused(x, "row", x.weight(0, false, -1, 0), 1);
        T.refused(x, "answer", x.weight(0, false, 0, 3), 1);
        T.refused(x, "answer", x.weight(0, false, 0, -1), 1);
        T.refused(x, "question", x.weight(3, false, 0, 0), 1);
    }

    private static void sheetTaking() {
        T.about("16 sheet");
        KitchenSheets x = Asked.kitchen();
        T.refused(x, "no such tray", x.sheet(4), 1);
        T.refused(x, "no such tray", x.sheet(-1), 1);
        T.refused(x, "missing", x.sheet(0), 2);
        T.refused(x, "too few", Asked.sheet(x, 9, 9, 9, 9, 9), 3);
        long[][] wrong = {{4, 0, 1, 2, 0, 0}, {-1, 0, 1, 2, 0, 0}, {0, 3, 1, 2, 0, 0}, {0, -1, 1, 2, 0, 0},
            {0, 0, -1, 2, 0, 0}, {0, 0, 2, 2, 0, 0}, {0, 0, 3, 2, 0, 0}, {0, 0, 2, 1440, 0, 0}, {0, 0, 1440, 1441, 0, 0},
            {0, 0, 1, 2, 2, 0}, {0, 0, 1, 2, 0, 2}, {0, 0, 1, 2, -1, 0}, {1L << 32, 0, 1, 2, 0, 0}, {0, 0, 1, 1L << 32, 0, 0}};
        for (long[] w : wrong) {
            T.refused(x, "can't be", Asked.sheet(x, w), 5);
        }
        T.due("none came", x.told(2), 5);
        T.due("edges, and numbers behind", Asked.sheet(x, 3, 2, 0, 1439, 1, 1, 99), 5);
        for (int i = 6; i < 16; i++) {
            T.due("sheet", Asked.sheet(x, 2, 0, 1438, 1439, 0, 0), i);
        }
        T.refused(x, "can't be ahead of one too many", Asked.sheet(x, 4, 0, 1, 2, 0, 0), 5);
        T.refused(x, "one too many", Asked.sheet(x, 3, 0, 1, 2, 0, 0), 4);
        Asked.land(x, "ask a 2;");
        T.refused(x, "without doors", Asked.sheet(x, 0, 0, 1, 2, 0), 5);
        Asked.land(x, "door 1 1;");
        T.due("without questions", Asked.sheet(x, 0, 0, 1, 2), 0);
    }

    private static void lookingAndAltering() {
        T.about("17 look, 18 alter");
        KitchenSheets x = Asked.kitchen();
        long[] seen = {0, 2, 640, 660, 0, 0, -1, 0, 1};
        for (int what = 0; what < 9; what++) {
            T.due("look " + what, x.look(2, what), seen[what]);
            T.due("status", x.status(), what == 6 ? 6 : 0);
        }
        T.refused(x, "behind the answers", x.look(2, 9), 1);
        T.refused(x, "below", x.look(2, -1), 1);
        T.refused(x, "no such", x.look(5, 0), 1);
        T.refused(x, "no such", x.look(-1, 0), 1);
        T.due("alter", x.alter(2, 1, 0), true);
        T.due("altered", x.look(2, 7) * 10 + x.look(2, 8), 0);
        T.due("others not", x.look(1, 7) * 10 + x.look(1, 8), 11);
        T.refused(x, "no such", x.alter(5, 0, 0), 1);
        T.refused(x, "no such", x.alter(0, 2, 0), 1);
        T.refused(x, "no such", x.alter(0, -1, 0), 1);
        T.refused(x, "no such", x.alter(0, 0, 2), 1);
        T.refused(x, "no such", x.alter(0, 0, -1), 1);
        x.world(1, 5, 6);
        T.due("made, half from 1", x.look(0, 5) * 100 + x.look(1, 5) * 10 + x.look(1, 6), 231);
        x.alter(1, 0, x.look(1, 7));
        T.due("not known then", x.look(1, 5), 0);
        T.refused(x, "no half one", x.look(1, 6), 6);
        T.due("known", x.look(0, 5), 2);
    }

    private static void cards() {
        T.about("19 card");
        KitchenSheets x = Asked.kitchen();
        for (int said = 2; said >= 0; said--) {
            T.due("card", x.card(3, said), true);
            T.due("look", x.look(3, 4), said);
        }
        x.card(3, 1);
        T.refused(x, "card", x.card(3, 3), 1);
        T.refused(x, "card", x.card(3, -1), 1);
        T.refused(x, "card", x.card(5, 0), 1);
        T.due("look", x.look(3, 4), 1);
        x.world(3, 5, 5);
        T.due("cards stay", x.look(3, 4), 1);
    }

    private static void oddsOfSheets() {
        T.about("20 sheetWeight, 21 odds");
        KitchenSheets x = Asked.kitchen();
        T.due("law", x.sheetWeight(1, false), 96);
        T.due("mind", x.sheetWeight(1, true), 128);
        T.due("law", x.sheetWeight(4, false), 32);
        T.due("mind", x.sheetWeight(4, true), 0);
        T.refused(x, "no such", x.sheetWeight(5, true), 1);
        T.fraction(x, "odds", x.odds(0, 8), 4, 7);
        T.fraction(x, "odds 0", x.odds(0, 0), 0, 1);
        T.fraction(x, "odds 16", x.odds(0, 16), 1, 1);
        T.fraction(x, "odds 4", x.odds(0, 4), 4, 13);
        T.refused(x, "share", x.odds(0, 17), 1);
        T.refused(x, "share", x.odds(0, -1), 1);
        T.refused(x, "no such", x.odds(-1, 8), 1);
        T.refused(x, "both weigh 0", x.odds(2, 16), 6);
        T.due("the fraction stays", x.top() * 100 + x.bottom(), 413);
        x.card(0, 1);
        T.fraction(x, "yes", x.odds(0, 8), 4, 13);
        x.card(0, 2);
        T.fraction(x, "no", x.odds(0, 8), 4, 5);
        Asked.land(x, "ask a 2;law a 0 16;mind a 16 0;door 0 0;cards 16 0;");
        Asked.sheet(x, 0, 0, 1, 2, 0);
        T.refused(x, "asked can't be", x.odds(0, 0), 6);
        T.fraction(x, "it is made", x.odds(0, 1), 1, 1);
        x.card(0, 1);
        T.refused(x, "made ones say no", x.odds(0, 8), 6);
        Asked.land(x, "ask a 2;ask b 2;law a 12 4;mind a 3 13;law b 5 11;door 0 0;");
        Asked.sheet(x, 0, 0, 1, 2, 0, 1);
        T.due("law of both", x.sheetWeight(0, false), 132);
        T.due("mind of both", x.sheetWeight(0, true), 24);
        T.fraction(x, "half from 1", x.half(0, 1), 8, 21);
        Asked.land(x, "door 5 5;");
        Asked.sheet(x, 0, 0, 1, 2);
        T.due("without questions", x.sheetWeight(0, false), 1);
        T.fraction(x, "without questions", x.odds(0, 4), 1, 4);
    }

    private static void halves() {
        T.about("22 half");
        KitchenSheets x = Asked.kitchen();
        T.fraction(x, "all", x.half(0, 0), 4, 11);
        T.fraction(x, "from 1", x.half(0, 1), 4, 11);
        T.fraction(x, "none", x.half(0, 2), 3, 11);
        T.refused(x, "too far", x.half(0, 3), 1);
        T.refused(x, "below", x.half(0, -1), 1);
        T.refused(x, "no such", x.half(5, 0), 1);
        x.card(0, 1);
        T.fraction(x, "cards do not count", x.half(0, 2), 3, 11);
        Asked.land(x, "ask a 2;ask b 2;law a 0 16;mind b 0 16;door 0 0;");
        Asked.sheet(x, 0, 0, 1, 2, 0, 0);
        T.refused(x, "all weigh 0", x.half(0, 1), 6);
        Asked.land(x, "door 5 5;");
        Asked.sheet(x, 0, 0, 1, 2);
        T.fraction(x, "without questions", x.half(0, 0), 1, 1);
    }

    private static void hours() {
        T.about("23 way, 25 amiss");
        KitchenSheets x = Asked.kitchen();
        T.due("ways", x.way(0, 1) * 10000 + x.way(2, 0) * 100 + x.way(1, 2), 51520);
        T.due("to itself", x.way(2, 2), 0);
        T.due("status", x.status(), 0);
        T.refused(x, "no such", x.way(0, 3), 1);
        T.refused(x, "no such", x.way(-1, 0), 1);
        T.due("amiss", x.amiss(0), 1);
        T.due("amiss", x.amiss(1), 0);
        T.due("amiss of none", x.amiss(2), 0);
        T.refused(x, "no such", x.amiss(4), 1);
        T.refused(x, "no such", x.amiss(-1), 1);
        Asked.land(x, "door 0 0;door 3 0;door 99 99;walk 7;");
        T.due("rounded up", x.way(0, 1), 3);
        T.due("together", x.way(0, 2), 139);
        Asked.sheet(x, 2, 0, 10, 20);
        Asked.sheet(x, 2, 1, 23, 30);
        T.due("just fits", x.amiss(2), 0);
        Asked.sheet(x, 2, 1, 10, 20);
        T.due("the same beginning, and too soon for none", x.amiss(2), 1);
        Asked.sheet(x, 2, 0, 1, 8);
        T.due("a later one by number, ahead in ORDER", x.amiss(2), 2);
        Asked.sheet(x, 1, 0, 1, 8);
        T.due("another's does not count", x.amiss(2), 2);
    }

    private static void walks() {
        T.about("24 walked");
        KitchenSheets x = Asked.kitchen();
        T.due("walked", x.walked(0), 11);
        T.due("walked", x.walked(1), 16);
        T.due("none", x.walked(3), 0);
        T.refused(x, "no such", x.walked(4), 1);
        T.refused(x, "no such", x.walked(-1), 1);
        Asked.land(x, "door 0 0;door 50 0;");
        Asked.sheet(x, 0, 0, 100, 110);
        Asked.sheet(x, 0, 0, 50, 120);
        Asked.sheet(x, 0, 0, 50, 60);
        T.due("the first in ORDER, though its number is greater", x.walked(0), 5);
        Asked.sheet(x, 0, 0, 120, 130);
        T.due("of several the first", x.walked(0), 13);
        Asked.sheet(x, 0, 1, 115, 125);
        Asked.sheet(x, 0, 0, 105, 109);
        T.due("the second one first", x.walked(0), 13);
        Asked.land(x, "door 0 0;");
        Asked.sheet(x, 0, 0, 20, 30);
        Asked.sheet(x, 0, 0, 20, 30);
        T.due("of two alike the first by number", x.walked(0), 1);
    }

    private static void groups() {
        T.about("26 group, 32 unlike");
        KitchenSheets x = Asked.kitchen();
        T.due("d 0", x.group(0, 0, 0) * 10 + x.group(0, 0, 1), 20);
        T.due("d 1", x.group(0, 1, 0) * 10 + x.group(0, 1, 1), 42);
        T.due("d 6", x.group(0, 6, 0) * 10 + x.group(0, 6, 1), 40);
        T.due("of one", x.group(1, 0, 0) * 10 + x.group(1, 0, 1), 14);
        T.refused(x, "it has none", x.group(2, 0, 0), 6);
        T.refused(x, "no such", x.group(4, 0, 0), 1);
        T.refused(x, "d", x.group(0, 7, 0), 1);
        T.refused(x, "d", x.group(0, -1, 0), 1);
        T.refused(x, "what", x.group(2, 0, 2), 1);
        T.refused(x, "what", x.group(0, 0, -1), 1);
        T.due("unlike", x.unlike(0), 3);
        T.due("unlike", x.unlike(1), 1);
        T.due("unlike of none", x.unlike(3), 0);
        T.refused(x, "no such", x.unlike(4), 1);
        T.refused(x, "no such", x.unlike(-1), 1);
        Asked.land(x, "ask a 4;door 0 0;");
        Asked.sheet(x, 0, 0, 500, 510, 3);
        Asked.sheet(x, 0, 0, 1, 2, 0);
        T.due("answers 0 and 3 differ in one", x.group(0, 1, 0), 2);
        T.due("the first by number", x.group(0, 0, 1), 0);
        T.due("unlike", x.unlike(0), 2);
    }

    private static void chances() {
        T.about("27 twins, 28 strange");
        KitchenSheets x = new KitchenSheets();
        T.fraction(x, "twins without questions", x.twins(), 1, 1);
        T.fraction(x, "a row weighs 1", x.strange(1), 0, 1);
        T.fraction(x, "a row weighs 1", x.strange(2), 1, 1);
        x = Asked.kitchen();
        T.fraction(x, "twins", x.twins(), 5, 16);
        T.fraction(x, "strange", x.strange(33), 1, 4);
        T.fraction(x, "less than", x.strange(32), 0, 1);
        T.fraction(x, "not less than", x.strange(96), 1, 4);
        T.fraction(x, "all", x.strange(97), 1, 1);
        T.fraction(x, "none", x.strange(0), 0, 1);
        T.fraction(x, "most", x.strange(99999999), 1, 1);
        T.refused(x, "t", x.strange(100000000), 1);
        T.refused(x, "t", x.strange(-1), 1);
        Asked.land(x, "ask a 4;ask b 4;ask c 4;ask d 4;ask e 4;ask f 4;");
        T.fraction(x, "twins of six", x.twins(), 1, 4096);
        T.fraction(x, "strange of six", x.strange(4096), 0, 1);
        T.fraction(x, "strange of six", x.strange(4097), 1, 1);
        Asked.land(x, "ask a 3;law a 15 1 0;ask b 2;law b 15 1;");
        T.fraction(x, "twins", x.twins(), 12769, 16384);
        T.fraction(x, "strange", x.strange(16), 31, 256);
    }

    private static void couples() {
        T.about("29 goes");
        KitchenSheets x = Asked.kitchen();
        T.fraction(x, "goes", x.goes(0, 0, 1), 1, 3);
        T.fraction(x, "goes back", x.goes(0, 1, 0), 1, 2);
        T.refused(x, "no couple", x.goes(1, 0, 1), 6);
        T.refused(x, "one and the same", x.goes(0, 1, 1), 1);
        T.refused(x, "no such", x.goes(0, 2, 0), 1);
        T.refused(x, "no such", x.goes(0, 0, 2), 1);
        T.refused(x, "no such", x.goes(4, 0, 1), 1);
        T.refused(x, "no such", x.goes(-1, 0, 1), 1);
        T.due("the fraction stays", x.top() * 10 + x.bottom(), 12);
    }

    private static void numbers() {
        T.about("30 number, 31 bounds");
        KitchenSheets x = Asked.kitchen();
        T.fraction(x, "number", x.number(1, 0, 31), 3, 5);
        T.fraction(x, "number", x.number(0, 1, 18), 1, 1);
        T.fraction(x, "number", x.number(0, 1, 13), 0, 1);
        T.refused(x, "empty", x.number(1, 0, 0), 6);
        T.refused(x, "with others", x.number(1, 0, 32), 1);
        T.refused(x, "with others", x.number(1, 0, -1), 1);
        T.refused(x, "no such answer, ahead of an empty set", x.number(1, 2, 0), 1);
        T.refused(x, "no such question", x.number(2, 0, 1), 1);
        T.fraction(x, "least", x.bounds(1, 0, 2, false), 1, 3);
        T.fraction(x, "most", x.bounds(1, 0, 2, true), 1, 1);
        T.fraction(x, "most", x.bounds(1, 0, 1, true), 3, 4);
        T.fraction(x, "least", x.bounds(1, 0, 4, false), 0, 1);
        T.fraction(x, "none left out", x.bounds(1, 0, 0, true), 3, 5);
        T.refused(x, "all left out", x.bounds(1, 0, 5, false), 1);
        T.refused(x, "below", x.bounds(1, 0, -1, false), 1);
        T.refused(x, "no such", x.bounds(1, 2, 0, false), 1);
        T.refused(x, "no such", x.bounds(-1, 0, 0, false), 1);
        Asked.land(x, Asked.KITCHEN);
        T.refused(x, "no SHEETS", x.bounds(0, 0, 0, true), 1);
        T.refused(x, "no SHEETS", x.number(0, 0, 1), 1);
        T.refused(x, "no SHEETS", x.number(0, 0, 0), 6);
    }

    private static void doubts() {
        T.about("33 doubtful");
        KitchenSheets x = Asked.kitchen();
        T.due("1 of sixteen", x.doubtful(8, 1), 11);
        T.due("0 of sixteen", x.doubtful(8, 0), 31);
        T.due("4 by 7 is 9 and more", x.doubtful(8, 9), 11);
        T.due("but not 10", x.doubtful(8, 10), 0);
        T.due("both weigh 0", x.doubtful(16, 0), 11);
        T.due("share 0", x.doubtful(0, 0), 31);
        T.due("share 0", x.doubtful(0, 1), 0);
        x.card(1, 2);
        T.due("by cards", x.doubtful(8, 12), 2);
        T.refused(x, "share", x.doubtful(17, 0), 1);
        T.refused(x, "share", x.doubtful(-1, 0), 1);
        T.refused(x, "of", x.doubtful(8, 17), 1);
        T.refused(x, "of", x.doubtful(8, -1), 1);
    }

    private static void test(String test, int set) {
        T.due(test, with("flag " + test + ";").flagged(0), set);
    }

    private static void tests() {
        T.about("34 flagged: the TESTS");
        test("same 0", 31);
        test("same 1", 9);
        test("same 2", 0);
        test("short 20", 24);
        test("short 21", 31);
        test("short 10", 0);
        test("late 660", 8);
        test("late 659", 12);
        test("rare 32", 0);
        test("rare 33", 20);
        test("rare 96", 20);
        test("rare 97", 31);
        test("made 0", 31);
        test("made 1", 11);
        test("made 9", 11);
        test("made 10", 0);
        test("card 0", 31);
        test("card 1", 0);
        test("amiss", 6);
        test("not amiss", 25);
        test("not not amiss", 6);
        test("amiss and short 20 or late 660", 8);
        test("late 660 or amiss and short 20", 8);
        test("(late 660 or amiss) and not same 1", 6);
        test("not late 660 and same 1", 1);
        test("not (late 660 and same 1)", 23);
        test("late 660 or amiss or same 1 and not short 20", 15);
        test("not not not not not not not amiss", 25);
        test("(((((((amiss)))))))", 6);
        KitchenSheets x = with("flag made 8;flag made 9;");
        Asked.land(x, "ask a 2;door 0 0;");
        Asked.sheet(x, 0, 0, 1, 2, 0);
        T.due("by SHARE 8 just 8", x.flagged(0) * 10 + x.flagged(1), 10);
        x = with("flag made 0;flag card 2;");
        Asked.land(x, "ask a 2;law a 0 16;mind a 0 16;door 0 0;");
        Asked.sheet(x, 0, 0, 1, 2, 0);
        T.due("not, if there are none", x.flagged(0), 0);
        x.card(0, 2);
        T.due("card 2", x.flagged(1), 1);
    }

    private static void flags() {
        T.about("34 flagged");
        KitchenSheets x = new KitchenSheets();
        T.refused(x, "no rule", x.flagged(0), 1);
        x = with("flag amiss;flag same 1;");
        T.due("flagged", x.flagged(0), 6);
        T.due("flagged", x.flagged(1), 9);
        T.refused(x, "no such", x.flagged(2), 1);
        T.refused(x, "no such", x.flagged(-1), 1);
        Asked.land(x, Asked.KITCHEN);
        T.due("without SHEETS", x.flagged(0), 0);
    }

    private static void hiding() {
        T.about("35 hides, 36 hidden");
        KitchenSheets x = with("flag same 1;flag amiss;flag rare 97;flag made 9 or rare 33 and same 0;");
        T.refused(x, "ahead of any, asked first", x.hidden(9), 6);
        T.due("hides", x.hides(0, 0), 1);
        T.due("the first of those", x.hidden(0) * 10 + x.hidden(1), 10);
        T.refused(x, "no such", x.hidden(2), 1);
        T.refused(x, "no such", x.hidden(-1), 1);
        T.refused(x, "not by answers", x.hides(1, 1), 6);
        T.due("the one ahead stays", x.hidden(0) * 10 + x.hidden(1), 10);
        T.due("not flagged at all", x.hides(1, 4), 0);
        T.due("its own", x.hidden(0) * 10 + x.hidden(1), 10);
        T.refused(x, "no row does", x.hides(2, 0), 6);
        T.refused(x, "no row does", x.hides(3, 0), 6);
        T.refused(x, "no such", x.hides(4, 0), 1);
        T.refused(x, "no such", x.hides(-1, 0), 1);
        T.refused(x, "no such", x.hides(0, 5), 1);
        T.refused(x, "no such", x.hides(0, -1), 1);
        T.due("nothing is changed", x.look(0, 7) * 10 + x.look(0, 8), 0);
        Asked.land(x, "ask a 3;ask b 4;ask c 2;law a 0 8 8;law b by a 4 4 4 4 0 16 0 0 0 0 8 8;law c by b 8 8 8 8 0 16 4 12;door 0 0;");
        Asked.rules(x, "flag rare 1;flag rare 600;flag rare 2049;flag not rare 1 or same 1;");
        Asked.sheet(x, 0, 0, 1, 2, 0, 0, 0);
        T.due("two others: 1 1 0 ahead of 2 3 0", x.hides(0, 0), 2);
        T.due("first", x.hidden(0) * 100 + x.hidden(1) * 10 + x.hidden(2), 110);
        T.due("1 1 0 weighs 8 by 16 by 8", x.hides(1, 0), 2);
        T.refused(x, "none weighs more", x.hides(2, 0), 6);
        T.due("its own row", x.hides(3, 0), 0);
        T.due("its own row", x.hidden(0) * 100 + x.hidden(1) * 10 + x.hidden(2), 0);
        Asked.sheet(x, 0, 0, 1, 2, 0, 0, 0);
        T.due("others as they are", x.hides(3, 0), 1);
        T.due("the last QUESTION first", x.hidden(0) * 100 + x.hidden(1) * 10 + x.hidden(2), 1);
    }

    private static void hiddenKept() {
        T.about("36 hidden: of the latest hides()");
        KitchenSheets x = with("flag same 1;");
        x.hides(0, 0);
        Asked.land(x, "ask a 2;ask b 2;ask c 2;");
        T.due("still told", x.hidden(0) * 10 + x.hidden(1), 10);
        T.refused(x, "no such QUESTION then", x.hidden(2), 1);
        Asked.land(x, "door 1 1;");
        Asked.sheet(x, 0, 0, 1, 2);
        T.due("without questions", x.hides(0, 0), 0);
        T.refused(x, "no such QUESTION then", x.hidden(0), 1);
    }

    private static void worths() {
        T.about("37 worth, 38 deters");
        KitchenSheets x = Asked.kitchen();
        T.due("more than", x.worth(1, 4, 100), 4);
        T.due("worth", x.worth(1, 3, 100), 15);
        T.due("all", x.worth(1, 16, 0), 31);
        T.due("no risk", x.worth(1, 0, 9999), 31);
        T.due("of no worth", x.worth(0, 0, 0), 0);
        T.due("20 minutes by 16 by 99", x.worth(99, 16, 1980), 14);
        int[][] wrong = {{100, 0, 0}, {-1, 0, 0}, {0, 17, 0}, {0, -1, 0}, {0, 0, 10000}, {0, 0, -1}};
        for (int[] w : wrong) {
            T.refused(x, "worth", x.worth(w[0], w[1], w[2]), 1);
        }
        T.due("deters", x.deters(1, 100), 7);
        T.due("just deters", x.deters(1, 40), 16);
        T.refused(x, "not by 16", x.deters(1, 39), 6);
        T.due("at once", x.deters(0, 0), 0);
        T.refused(x, "minute", x.deters(100, 0), 1);
        T.refused(x, "minute", x.deters(-1, 0), 1);
        T.refused(x, "fine", x.deters(0, 10000), 1);
        T.refused(x, "fine", x.deters(0, -1), 1);
        Asked.land(x, Asked.KITCHEN);
        T.due("none to deter", x.deters(99, 0), 0);
        Asked.sheet(x, 0, 0, 50, 60, 0, 0);
        Asked.sheet(x, 0, 2, 20, 30, 0, 0);
        T.due("the way is of the later one in ORDER", x.worth(1, 1, 160), 1);
    }

    private static void checks() {
        T.about("39 checked, 40 found");
        KitchenSheets x = Asked.kitchen();
        T.refused(x, "found ahead of any", x.found(), 6);
        int[][] due = {{0, 8, 0, 0}, {1, 8, 1, 2340}, {2, 8, 9, 4680}, {11, 8, 1 + 8, 4680}, {12, 8, 3, 4680},
            {13, 8, 11, 7020}, {999, 8, 11, 7020}, {999, 16, 11, 12288}, {999, 0, 0, 0}};
        for (int[] d : due) {
            T.due("checked " + d[0] + " " + d[1], x.checked(d[0], d[1]), d[2]);
            T.due("found", x.found(), d[3]);
        }
        x.card(1, 2);
        T.due("4 by 5", x.checked(11, 8), 9);
        T.due("found", x.found(), 4680);
        T.due("4 by 5", x.checked(12, 8), 3);
        T.due("found", x.found(), 2340 + 3276);
        T.refused(x, "coin", x.checked(1000, 8), 1);
        T.refused(x, "coin", x.checked(-1, 8), 1);
        T.refused(x, "share", x.checked(1, 17), 1);
        T.refused(x, "share", x.checked(1, -1), 1);
        T.due("found stays", x.found(), 5616);
        Asked.land(x, "door 1 1;");
        T.due("found stays", x.found(), 5616);
        T.due("without SHEETS", x.checked(999, 8), 0);
        T.due("found", x.found(), 0);
    }

    private static void drawn(KitchenSheets x, int seed, int asked, int[][] due) {
        T.due("world " + seed, x.world(seed, 5, 6), asked);
        for (int i = 0; i < due.length; i++) {
            T.due("TRUTH of " + i, x.look(i, 5), due[i][0]);
            T.due("half of " + i, x.look(i, 6), due[i][0] == 3 ? due[i][1] : -1);
            T.due("first answer of " + i, x.look(i, 7), due[i][2]);
            T.due("second answer of " + i, x.look(i, 8), due[i][3]);
        }
    }

    private static void worlds() {
        T.about("41 world");
        KitchenSheets x = Asked.kitchen();
        drawn(x, 0, 1, new int[][] {{2, 0, 0, 0}, {3, 0, 1, 1}, {3, 0, 0, 0}, {1, 0, 1, 1}, {3, 0, 1, 1}});
        drawn(x, 1, 0, new int[][] {{2, 0, 0, 0}, {3, 1, 1, 1}, {2, 0, 0, 0}, {3, 0, 1, 1}, {3, 0, 0, 0}});
        drawn(x, 9999, 3, new int[][] {{1, 0, 0, 0}, {1, 0, 1, 1}, {1, 0, 1, 0}, {2, 0, 1, 1}, {2, 0, 0, 0}});
        T.due("all made", x.world(5, 16, 0), 0);
        T.due("all half", x.world(5, 0, 16), 0);
        T.due("all asked", x.world(5, 0, 0), 5);
        int[][] wrong = {{-1, 0, 0}, {10000, 0, 0}, {0, 17, 0}, {0, -1, 0}, {0, 0, 17}, {0, 0, -1}, {0, 9, 8}, {0, -1, 17}};
        for (int[] w : wrong) {
            T.refused(x, "world", x.world(w[0], w[1], w[2]), 1);
        }
        T.due("TRUTH stays", x.look(0, 5), 1);
        Asked.sheet(x, 0, 0, 1, 2, 0, 0);
        T.due("a later one is not known", x.look(5, 5), 0);
        Asked.land(x, "door 0 0;");
        T.due("without SHEETS", x.world(0, 1, 1), 0);
        Asked.sheet(x, 0, 0, 1, 2);
        T.due("the first draw by 16 is 3", x.world(0, 3, 0), 1);
        T.due("made", x.world(0, 4, 0), 0);
        T.due("half, without questions", x.world(0, 0, 4), 0);
        T.due("from 0", x.look(0, 6), 0);
    }

    private static void scores() {
        T.about("42 score");
        KitchenSheets x = with("flag same 1;flag late 610;");
        for (int what = 0; what < 3; what++) {
            T.due("ahead of a WORLD", x.score(0, what), 0);
        }
        x.world(9999, 5, 6);
        T.due("1 and 3 are the same", x.flagged(0), 10);
        T.due("caught", x.score(0, 0), 1);
        T.due("wronged", x.score(0, 1), 1);
        T.due("missed", x.score(0, 2), 1);
        T.due("late", x.score(1, 0) * 100 + x.score(1, 1) * 10 + x.score(1, 2), 131);
        x.world(0, 5, 6);
        T.due("half ones too", x.score(1, 0) * 100 + x.score(1, 1) * 10 + x.score(1, 2), 311);
        Asked.sheet(x, 0, 0, 900, 910, 0, 0);
        T.due("a later one counts for none", x.score(1, 0) * 100 + x.score(1, 1) * 10 + x.score(1, 2), 311);
        x.alter(1, 0, 0);
        T.due("nor an altered one", x.score(1, 0) * 100 + x.score(1, 1) * 10 + x.score(1, 2), 211);
        T.refused(x, "no such", x.score(2, 0), 1);
        T.refused(x, "no such", x.score(-1, 0), 1);
        T.refused(x, "what", x.score(0, 3), 1);
        T.refused(x, "what", x.score(0, -1), 1);
    }

    private static void markKeeping() {
        T.about("43 mark, 44 back");
        KitchenSheets x = with("flag same 1;");
        x.card(1, 2);
        x.world(1, 5, 6);
        T.due("mark", x.mark(), 1);
        x.card(1, 1);
        x.world(9999, 5, 6);
        x.alter(0, 1, 1);
        Asked.sheet(x, 3, 0, 900, 910, 0, 0);
        Asked.rules(x, "flag amiss;flag late 9;");
        T.due("mark", x.mark(), 2);
        x.tray(0, 3, 1);
        x.write(0, 0, 77);
        x.hides(1, 0);
        x.checked(999, 8);
        int found = x.found();
        Asked.land(x, "ask a 3;walk 99;cards 0 0;");
        Asked.rules(x, "");
        Asked.feed(x, "door 1 1;");
        x.odds(9, 9);
        x.twins();
        T.due("back", x.back(), 1);
        T.due("the LAND", x.told(0) * 10000 + x.told(1) * 1000 + x.told(4) * 100 + x.told(5), 23512);
        T.due("SHEETS and RULES", x.told(2) * 10 + x.told(3), 62);
        T.due("TRUTH", x.look(0, 5) * 100 + x.look(1, 5) * 10 + x.look(3, 5), 12);
        T.due("the FRACTION stays: twins by 6, 5 and 5", x.top() * 1000 + x.bottom(), 43128);
        T.due("TRAYS stay", x.read(0, 0), 77);
        T.due("found stays", x.found(), found);
        T.due("back", x.back(), 0);
        T.due("SHEETS and RULES", x.told(2) * 10 + x.told(3), 51);
        T.due("CARDS", x.look(1, 4), 2);
        T.due("TRUTH", x.look(0, 5) * 100 + x.look(1, 5) * 10 + x.look(1, 6), 231);
        long[][] kept = {{0, 0, 600, 620}, {0, 1, 630, 650}, {0, 2, 640, 660}, {0, 0, 690, 700}, {1, 1, 600, 610}};
        for (int i = 0; i < 5; i++) {
            for (int what = 0; what < 4; what++) {
                T.due("SHEET " + i + " look " + what, x.look(i, what), kept[i][what]);
            }
        }
        T.due("ANSWERS", x.look(0, 7) * 10 + x.look(0, 8), 0);
        T.due("ANSWERS", x.look(1, 7) * 10 + x.look(1, 8), 11);
        T.due("the RULE itself", x.flagged(0), 31 - 16);
        T.due("the tape stays", x.feed(0, 0, 0, 0, 0), 40);
        T.refused(x, "it is gone then", x.back(), 6);
        T.due("WEIGHTS", x.weight(1, true, 1, 1), 16);
        T.due("by", x.question(1, 2), 0);
        T.due("way", x.way(1, 2), 20);
    }

    private static void markLimits() {
        T.about("43 mark, 44 back: how many");
        KitchenSheets x = new KitchenSheets();
        T.refused(x, "none", x.back(), 6);
        for (int i = 1; i <= 3; i++) {
            T.due("mark", x.mark(), i);
            Asked.land(x, i == 1 ? "ask a 2;" : i == 2 ? "ask a 2;ask b 2;" : "ask a 2;ask b 2;ask c 2;");
        }
        T.refused(x, "a fourth", x.mark(), 4);
        T.due("the LAND is left", x.told(0), 3);
        for (int i = 2; i >= 0; i--) {
            T.due("back", x.back(), i);
            T.due("the LAND", x.told(0), i);
        }
        T.refused(x, "none left", x.back(), 6);
        T.due("again", x.mark(), 1);
    }
}
