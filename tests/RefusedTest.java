import java.util.ArrayList;
import java.util.Arrays;
import java.util.List;

/**
 * "With another STATUS than 0 a call gives NONE, or false, and changes nothing else": each call with each STATUS that its
 * promise names is asked of an object that has something of all; a twin that was not asked must tell the same of all.
 */
public final class RefusedTest {
    private static final Asked T = new Asked();
    private static final int MIN = Integer.MIN_VALUE;
    private static final int MAX = Integer.MAX_VALUE;
    private static final String LAND = "ask a 2;ask b 3;ask c 4;law b by a 1 2 13 0 8 8;mind c by b 16 0 0 0 0 16 0 0 4 4 4 4;"
        + "mind a 0 16;law a 15 1;door 0 0;door 9 9;door 1 2;walk 7;cards 11 3;";

    public static void main(String[] args) {
        T.sentence("==== 4.", "With another STATUS than 0 a call gives NONE, or false, and changes nothing else");
        numbersThatCannotBe();
        trays();
        sheets();
        noneSuch();
        noneSuchYet();
        faults();
        T.end("RefusedTest");
    }

    /** All that there is, and as much as there may be: 16 SHEETS, 4 RULES, 3 MARKS, a WORLD, a FAULT, a tape. */
    private static KitchenSheets full() {
        KitchenSheets x = new KitchenSheets();
        Asked.land(x, LAND);
        Asked.rules(x, "flag same 1;flag amiss or card 1;flag made 8;flag not not late 0;");
        x.tray(1, 0, 5);
        x.write(1, 4, -7);
        x.tray(2, 1, 8);
        x.write(2, 3, 20);
        for (int i = 0; i < 16; i++) {
            x.write(2, 0, i % 3);
            x.write(2, 2, 19 - i);
            x.sheet(2);
            if (i % 6 == 5) {
                x.mark();
                x.world(i, 5, 5);
            }
        }
        x.tray(3, 3, 7);
        x.card(0, 1);
        x.card(15, 2);
        x.world(4, 5, 5);
        x.mark();
        x.alter(3, 0, 1);
        x.alter(3, 1, 1);
        x.alter(3, 2, 0);
        x.hides(0, 0);
        x.checked(40, 8);
        Asked.land(x, "walk 100;");
        x.odds(0, 7);
        Asked.feed(x, "ask new 2;walk 3;   ");
        return x;
    }

    private static List<Long> reading(KitchenSheets x) {
        List<Long> told = new ArrayList<>();
        told.addAll(Arrays.asList(x.top(), x.bottom()));
        for (int what = 0; what < 7; what++) {
            told.add((long) x.told(what));
        }
        for (int q = 0; q < 3; q++) {
            for (int what = 0; what < 3; what++) {
                told.add((long) x.question(q, what));
            }
            for (int i = 0; i < 12; i++) {
                told.add((long) x.weight(q, i % 2 == 0, i / 4, i % 4));
            }
            told.add((long) x.way(q, (q + 1) % 3));
            told.add((long) x.hidden(q));
        }
        told.add((long) x.found());
        for (int i = 0; i < 16; i++) {
            for (int what = 0; what < 10; what++) {
                told.add((long) x.look(i, what));
            }
        }
        for (int i = 0; i < 16; i++) {
            told.add(x.read(i % 4, i < 4 ? 0 : i < 8 ? 4 : i < 12 ? 5 : 7));
        }
        for (int rule = 0; rule < 4; rule++) {
            told.add((long) x.flagged(rule));
        }
        return told;
    }

    /** What is behind that: the FAULT, the tape, the MARKS. To ask it changes them. */
    private static List<Long> rest(KitchenSheets x) {
        List<Long> told = new ArrayList<>();
        told.addAll(Arrays.asList((long) x.fault(0), (long) x.fault(1), (long) x.feed(0, 0, 0, 0, 0)));
        x.mark();
        told.addAll(Arrays.asList((long) x.land(20), (long) x.told(4), (long) x.fault(0), (long) x.fault(1)));
        for (int i = 0; i < 4; i++) {
            told.addAll(Arrays.asList((long) x.back(), (long) x.told(2), (long) x.told(3), (long) x.told(4)));
            for (int sheet = 0; sheet < 16; sheet += 5) {
                told.addAll(Arrays.asList((long) x.look(sheet, 4), (long) x.look(sheet, 5), (long) x.look(sheet, 8)));
            }
        }
        return told;
    }

    private static void refused(boolean isFull, int status, String name, long... a) {
        KitchenSheets x = isFull ? full() : bare();
        KitchenSheets twin = isFull ? full() : bare();
        T.refusedCall(x, status, name, a);
        String call = name + Arrays.toString(a) + " with STATUS " + status;
        T.due(call + " changes nothing", reading(x).equals(reading(twin)), true);
        T.due(call + " changes no FAULT, tape, MARK", rest(x).equals(rest(twin)), true);
    }

    private static void all(int status, String name, long[]... calls) {
        for (long[] a : calls) {
            refused(true, status, name, a);
        }
    }

    private static long[] a(long... numbers) {
        return numbers;
    }

    private static void numbersThatCannotBe() {
        T.sentence("==== 4.", "1 a number that can't be; no such TRAY, QUESTION, SHEET, RULE; a set with others.");
        all(1, "tray", a(4, 3, 5), a(-1, 3, 5), a(1, 4, 5), a(1, -1, 5), a(1, 0, 61), a(1, 0, -1));
        all(1, "write", a(4, 0, 9), a(-1, 0, 9));
        all(1, "read", a(4, 0), a(-1, 0));
        all(1, "pour", a(4, 0, 1, 0, 1), a(1, -1, 1, 0, 1), a(1, 4, -1, 0, 1), a(1, 4, 1, -1, 1), a(1, 4, 1, 0, -1));
        all(1, "land", a(-1), a(21), a(MAX), a(MIN));
        all(1, "rules", a(-1), a(21), a(301), a(MAX), a(MIN));
        all(1, "told", a(-1), a(7));
        all(1, "question", a(3, 0), a(-1, 1), a(0, 3), a(0, -1));
        all(1, "weight", a(3, 0, 0, 0), a(0, 1, 1, 0), a(0, 0, 0, 2), a(-1, 0, 0, 0), a(0, 0, -1, 0), a(0, 0, 0, -1));
        all(1, "sheet", a(4), a(-1));
        all(1, "look", a(16, 0), a(-1, 0), a(0, 10), a(0, -1));
        all(1, "alter", a(16, 0, 0), a(-1, 0, 0), a(0, 3, 0), a(0, -1, 0), a(0, 0, 2), a(0, 0, -1), a(0, 1, 3));
        all(1, "card", a(16, 0), a(-1, 0), a(0, 3), a(0, -1));
        all(1, "sheetWeight", a(16, 0), a(-1, 1));
        all(1, "odds", a(16, 8), a(-1, 8), a(3, 17), a(3, -1));
        all(1, "half", a(16, 0), a(-1, 0), a(3, 4), a(3, -1));
        all(1, "way", a(3, 0), a(-1, 0), a(0, 3), a(0, -1));
        all(1, "walked", a(4), a(-1));
        all(1, "amiss", a(4), a(-1));
        all(1, "group", a(4, 0, 0), a(-1, 0, 0), a(0, 7, 0), a(0, -1, 0), a(0, 0, 2), a(0, 0, -1));
        all(1, "strange", a(-1), a(100000000));
        all(1, "goes", a(4, 0, 1), a(-1, 0, 1), a(0, 3, 1), a(0, 1, -1), a(0, 1, 1));
        all(1, "number", a(3, 0, 1), a(0, 2, 1), a(0, -1, 1), a(0, 0, 65536), a(0, 0, -1));
        all(1, "bounds", a(3, 0, 1, 0), a(0, 2, 1, 1), a(0, 0, 16, 0), a(0, 0, -1, 1));
        all(1, "unlike", a(4), a(-1));
        all(1, "doubtful", a(17, 0), a(-1, 0), a(8, 17), a(8, -1));
        all(1, "flagged", a(4), a(-1));
        all(1, "hides", a(4, 2), a(-1, 2), a(1, 16), a(1, -1));
        all(1, "hidden", a(3), a(-1));
        all(1, "worth", a(100, 1, 1), a(-1, 1, 1), a(1, 17, 1), a(1, -1, 1), a(1, 1, 10000), a(1, 1, -1));
        all(1, "deters", a(100, 1), a(-1, 1), a(1, 10000), a(1, -1));
        all(1, "checked", a(1000, 16), a(-1, 16), a(9, 17), a(9, -1));
        all(1, "world", a(10000, 8, 8), a(-1, 8, 8), a(7, 17, 0), a(7, -1, 9), a(7, 9, 8), a(7, 9, -1));
        all(1, "score", a(4, 0), a(-1, 0), a(0, 3), a(0, -1));
    }

    private static void trays() {
        T.sentence("==== 4.", "2 the TRAY is MISSING. 3 a place that the TRAY has not, or too few numbers.");
        all(2, "write", a(0, 0, 5), a(0, -1, 5));
        all(2, "read", a(0, 0), a(0, 60));
        all(2, "pour", a(0, 0, 1, 0, 1), a(1, 0, 0, 0, 1));
        all(2, "sheet", a(0));
        all(3, "write", a(1, 5, 9), a(1, -1, 9), a(1, MAX, 9), a(1, MIN, 9));
        all(3, "read", a(1, 5), a(1, -1), a(1, MAX), a(1, MIN));
        all(3, "pour", a(1, 4, 1, 0, 2), a(1, 0, 1, 4, 2), a(1, 6, 1, 0, 0), a(1, 0, 1, 6, 0), a(2, 0, 2, 0, 9));
        T.sentence("==== 4.", "8 TRAYS are of unlike sorts.");
        all(8, "pour", a(1, 4, 2, 0, 1), a(2, 0, 3, 0, 1), a(3, 0, 1, 0, 0));
    }

    private static void sheets() {
        T.sentence("==== 4.", "or too few numbers. 4 one too many. 5 a number in a TRAY that can't be.");
        all(3, "sheet", a(1));
        all(4, "sheet", a(2));
        all(5, "sheet", a(3));
        all(4, "mark", a());
        KitchenSheets x = full();
        x.back();
        x.back();
        x.back();
        KitchenSheets twin = full();
        twin.back();
        twin.back();
        twin.back();
        T.due("six SHEETS by the first MARK", x.told(2), 6);
        T.refusedCall(x, 3, "sheet", 1);
        T.refusedCall(x, 5, "sheet", 3);
        T.due("sheet changes nothing", reading(x).equals(reading(twin)), true);
        T.due("nor behind", rest(x).equals(rest(twin)), true);
    }

    private static void noneSuch() {
        T.sentence("==== 4.", "6 there is none such.");
        all(6, "question", a(0, 1), a(0, 2), a(2, 1), a(1, 2));
        all(6, "group", a(3, 6, 0), a(3, 6, 1));
        all(6, "goes", a(3, 0, 1));
        all(6, "number", a(0, 0, 0));
        all(6, "hides", a(3, 0), a(3, 15));
        all(6, "deters", a(99, 0), a(1, 1));
        all(6, "look", a(unlike(3), 6), a(3, 6));
        all(6, "odds", a(3, 16));
    }

    /** A SHEET of that object whose TRUTH is not that. */
    private static int unlike(int truth) {
        KitchenSheets x = full();
        int sheet = 0;
        while (sheet < 15 && (x.look(sheet, 5) == truth || x.look(sheet, 5) == 0)) {
            sheet++;
        }
        return sheet;
    }

    private static KitchenSheets bare() {
        KitchenSheets x = new KitchenSheets();
        Asked.land(x, "ask a 2;ask b 2;law a 0 16;mind b 0 16;door 0 0;");
        Asked.rules(x, "flag late 0;");
        Asked.sheet(x, 0, 0, 1, 2, 0, 0);
        x.twins();
        Asked.feed(x, "walk 9;             ");
        return x;
    }

    private static void noneSuchYet() {
        T.sentence("==== 4.", "6 there is none such.");
        refused(false, 6, "hidden", 0);
        refused(false, 6, "hidden", 9);
        refused(false, 6, "found");
        refused(false, 6, "back");
        refused(false, 6, "half", 0, 0);
        refused(false, 6, "odds", 0, 8);
        refused(false, 6, "hides", 0, 0);
        refused(false, 6, "goes", 0, 0, 1);
        refused(false, 6, "look", 0, 6);
    }

    private static void faults() {
        T.sentence("==== 4.", "(but land(), rules() with 9 the tape, and what fault() tells)");
        // The tape has "ask new 2;walk 3;".
        fault("land", 16, 16);
        fault("land", 9, 9);
        fault("land", 1, 0);
        fault("rules", 20, 0);
        fault("rules", 1, 0);
    }

    private static void fault(String name, int n, int place) {
        KitchenSheets x = full();
        KitchenSheets twin = full();
        T.refusedCall(x, 9, name, n);
        T.due(name + " with 9 changes nothing else", reading(x).equals(reading(twin)), true);
        T.due("the FAULT", x.fault(0), 2);
        T.due("its place", x.fault(1), place);
        T.due("the tape is empty", x.feed(0, 0, 0, 0, 0), 20);
        for (int i = 0; i < 3; i++) {
            T.due("the MARKS are there", x.back(), twin.back());
            T.due("with SHEETS", x.told(2) * 100 + x.look(5, 5), twin.told(2) * 100 + twin.look(5, 5));
        }
    }
}
