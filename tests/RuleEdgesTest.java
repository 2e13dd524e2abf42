import java.util.Arrays;

/** The sentences of the document that name a boundary of a call: promises 34 to 44 and "==== 3.", but for the text of RULES. */
public final class RuleEdgesTest {
    private static final Asked T = new Asked();
    private static final String SIX = "ask a 2;ask b 2;ask c 2;ask d 2;ask e 2;ask f 2;";
    private static final int MIN = Integer.MIN_VALUE;
    private static final int MAX = Integer.MAX_VALUE;

    public static void main(String[] args) {
        flagged();
        testSame();
        testHours();
        testRare();
        testMade();
        testCardAndAmiss();
        rulesAnew();
        notAndOr();
        hides();
        hidesFirst();
        hidesByOdds();
        hidden();
        worth();
        worthWays();
        deters();
        checkedNumbers();
        checkedCosts();
        checkedWorths();
        checkedLeast();
        found();
        worldNumbers();
        worldTruth();
        worldHalf();
        worldAnswers();
        worldKeeps();
        score();
        markKeepsLand();
        markKeepsRules();
        markKeepsSheets();
        markKeepsNoMore();
        marksFull();
        marksStandAlone();
        T.end("RuleEdgesTest");
    }

    private static KitchenSheets with(String rules) {
        KitchenSheets x = Asked.kitchen();
        T.due(rules, Asked.rules(x, rules) > 0, true);
        return x;
    }

    private static void flags(KitchenSheets x, String test, long due) {
        T.due(test, Asked.rules(x, "flag " + test + ";"), 1);
        T.due(test, x.flagged(0), due);
    }

    // ---- 34: flagged

    private static void flagged() {
        T.sentence("Promise 34", "FLAGGED by a RULE: a set (1).");
        KitchenSheets x = new KitchenSheets();
        T.refusedCall(x, 1, "flagged", 0);
        x = with("flag late 660;");
        T.span(x, 0, 0, 0, "flagged", 0);
        x = with("flag late 660;flag late 659;flag late 649;flag late 619;");
        T.span(x, 0, 3, 0, "flagged", 0);
        long[] due = {8, 12, 14, 15};
        for (int rule = 0; rule < 4; rule++) {
            T.due("RULE " + rule, x.flagged(rule), due[rule]);
        }
        Asked.land(x, "door 0 0;");
        T.due("without SHEETS", x.flagged(3), 0);
        for (int i = 0; i < 16; i++) {
            Asked.sheet(x, i % 4, 0, 700, 701);
        }
        T.due("all of sixteen", x.flagged(0), 65535);
        T.refusedCall(x, 9, "rules", fed(x, "flag"));
        T.due("a FAULT leaves them", x.flagged(3), 65535);
        x.rules(0);
        T.refusedCall(x, 1, "flagged", 0);
    }

    private static long fed(KitchenSheets x, String text) {
        Asked.feed(x, text);
        return text.length();
    }

    private static void testSame() {
        T.sentence("==== 3.", "same n: at least n others of its ASKER have just its ANSWERS.");
        KitchenSheets x = new KitchenSheets();
        Asked.land(x, SIX + "door 0 0;");
        for (int i = 0; i < 3; i++) {
            Asked.sheet(x, 0, 0, i, i + 1, 1, 0, 1, 0, 1, 0);
        }
        Asked.sheet(x, 1, 0, 1, 2, 1, 0, 1, 0, 1, 0);
        Asked.sheet(x, 0, 0, 1, 2, 1, 0, 1, 0, 1, 1);
        Asked.sheet(x, 0, 0, 1, 2, 0, 0, 1, 0, 1, 0);
        flags(x, "same 0", 63);
        flags(x, "same 1", 7);
        flags(x, "same 2", 7);
        flags(x, "same 3", 0);
        flags(x, "same 9999", 0);
        x.alter(4, 5, 0);
        flags(x, "same 3", 23);
        Asked.land(x, "door 0 0;");
        for (int i = 0; i < 16; i++) {
            Asked.sheet(x, 3, 0, 1, 2);
        }
        flags(x, "same 15", 65535);
        flags(x, "same 16", 0);
    }

    private static void testHours() {
        T.sentence("==== 3.", "short n: it took less than n minutes.");
        KitchenSheets x = new KitchenSheets();
        Asked.land(x, "door 0 0;");
        Asked.sheet(x, 0, 0, 0, 1439);
        Asked.sheet(x, 1, 0, 10, 11);
        Asked.sheet(x, 2, 0, 10, 30);
        flags(x, "short 0", 0);
        flags(x, "short 1", 0);
        flags(x, "short 2", 2);
        flags(x, "short 20", 2);
        flags(x, "short 21", 6);
        flags(x, "short 1439", 6);
        flags(x, "short 1440", 7);
        T.sentence("==== 3.", "late n: it ends behind minute n.");
        flags(x, "late 0", 7);
        flags(x, "late 10", 7);
        flags(x, "late 11", 5);
        flags(x, "late 29", 5);
        flags(x, "late 30", 1);
        flags(x, "late 1438", 1);
        flags(x, "late 1439", 0);
        flags(x, "late 9999", 0);
    }

    private static void testRare() {
        T.sentence("==== 3.", "rare n: its WEIGHT by the LAW is less than n.");
        KitchenSheets x = Asked.kitchen();
        flags(x, "rare 0", 0);
        flags(x, "rare 32", 0);
        flags(x, "rare 33", 20);
        flags(x, "rare 96", 20);
        flags(x, "rare 97", 31);
        Asked.land(x, "ask a 2;law a 16 0;mind a 0 16;door 0 0;");
        Asked.sheet(x, 0, 0, 1, 2, 1);
        flags(x, "rare 0", 0);
        flags(x, "rare 1", 1);
        Asked.land(x, "door 0 0;");
        Asked.sheet(x, 0, 0, 1, 2);
        flags(x, "rare 1", 0);
        flags(x, "rare 2", 1);
    }

    private static void testMade() {
        T.sentence("==== 3.", "made n (0 to 16): its ODDS by SHARE 8 are n of sixteen or more (not, if there are none).");
        KitchenSheets x = new KitchenSheets();
        Asked.land(x, "ask a 4;law a 16 0 0 0;mind a 0 16 0 0;door 0 0;cards 14 2;");
        for (int a = 0; a < 3; a++) {
            Asked.sheet(x, 0, 0, 1, 2, a);
        }
        flags(x, "made 0", 3);
        flags(x, "made 1", 2);
        flags(x, "made 16", 2);
        flags(x, "not made 0", 4);
        Asked.land(x, "ask a 4;law a 5 3 5 3;mind a 3 5 3 5;door 0 0;");
        Asked.sheet(x, 0, 0, 1, 2, 0);
        Asked.sheet(x, 0, 0, 1, 2, 1);
        flags(x, "made 6", 3);
        flags(x, "made 7", 2);
        flags(x, "made 10", 2);
        flags(x, "made 11", 0);
        x.card(0, 2);
        x.card(1, 1);
        flags(x, "made 12", 1);
        flags(x, "made 13", 0);
        flags(x, "made 3", 3);
        flags(x, "made 4", 1);
    }

    private static void testCardAndAmiss() {
        T.sentence("==== 3.", "card n (0 to 2): its CARD is that.");
        KitchenSheets x = Asked.kitchen();
        x.card(1, 1);
        x.card(2, 2);
        flags(x, "card 0", 25);
        flags(x, "card 1", 2);
        flags(x, "card 2", 4);
        T.sentence("==== 3.", "amiss: it is one of a couple that is AMISS.");
        Asked.land(x, "door 0 0;");
        Asked.sheet(x, 0, 0, 20, 30);
        Asked.sheet(x, 0, 0, 30, 40);
        flags(x, "amiss", 0);
        Asked.sheet(x, 0, 0, 39, 50);
        flags(x, "amiss", 6);
        Asked.sheet(x, 1, 0, 10, 60);
        flags(x, "amiss", 6);
        Asked.sheet(x, 0, 0, 10, 21);
        flags(x, "amiss", 23);
        Asked.land(x, "door 0 0;");
        for (int i = 0; i < 16; i++) {
            Asked.sheet(x, 0, 0, 100 - 5 * i, 105 - 5 * i);
        }
        flags(x, "amiss", 0);
        Asked.land(x, "door 0 0;");
        Asked.sheet(x, 0, 0, 20, 30);
        Asked.sheet(x, 0, 0, 10, 20);
        flags(x, "amiss", 0);
        Asked.sheet(x, 0, 0, 12, 13);
        flags(x, "amiss", 6);
        x.mark();
        Asked.sheet(x, 0, 0, 25, 26);
        flags(x, "amiss", 15);
        x.back();
        flags(x, "amiss", 6);
    }

    /** RULES are read so often that what was read ahead would fill any room, were it not given back. */
    private static void rulesAnew() {
        T.sentence("Promise 11", "Likewise the RULES: how many");
        KitchenSheets x = Asked.kitchen();
        String most = "flag " + Asked.many("card1or ", 36);
        for (int i = 0; i < 20; i++) {
            T.due("RULES of 37 TESTS", Asked.rules(x, most + (i % 2 == 0 ? "amiss;" : "card0;")), 1);
            T.due("FLAGGED", x.flagged(0), i % 2 == 0 ? 6 : 31);
        }
    }

    private static void notAndOr() {
        T.sentence("==== 3.", "RULE: flag TERM {or TERM} ; TERM: TEST {and TEST}. TEST: not TEST, or ( TERM {or TERM} )");
        KitchenSheets x = Asked.kitchen();
        flags(x, "amiss and short 20 or late 660", 8);
        flags(x, "late 660 or amiss and short 20", 8);
        flags(x, "amiss and (short 20 or late 650)", 4);
        flags(x, "not late 660 and same 1", 1);
        flags(x, "not (late 660 and same 1)", 23);
        flags(x, "not amiss or amiss", 31);
        flags(x, "not (amiss or not amiss)", 0);
        flags(x, "not not amiss", 6);
        flags(x, "not not not not not not not amiss", 25);
        flags(x, "(((((((amiss)))))))", 6);
        flags(x, "not(not(not(amiss and late 650)or amiss))", 27 + 4);
        flags(x, "amiss and late 650 and rare 33 or late 660 and short 20 and same 1", 12);
        flags(x, "late 9999 or late 9998 or late 9997 or amiss", 6);
        flags(x, "amiss or late 9999 or late 9998 or late 9997", 6);
        flags(x, "late 0 and late 1 and late 2 and amiss", 6);
        flags(x, "amiss and late 0 and late 1 and late 9999", 0);
    }

    // ---- 35, 36: hides, hidden

    private static long row(KitchenSheets x, int questions) {
        long told = 0;
        for (int q = 0; q < questions; q++) {
            told = told * 10 + x.hidden(q);
            T.due("hidden has STATUS 0", x.status(), 0);
        }
        return told;
    }

    private static void hides() {
        T.sentence("Promise 35", "HIDES: how many (1; 6: no row of ANSWERS does).");
        KitchenSheets x = new KitchenSheets();
        T.refusedCall(x, 1, "hides", 0, 0);
        x = Asked.kitchen();
        T.refusedCall(x, 1, "hides", 0, 0);
        x = with("flag same 1;flag amiss;flag same 0;flag rare 97;");
        T.span(x, 0, 3, 0, "hides", 0, 0);
        T.span(x, 0, 4, 1, "hides", 0, 0);
        T.refusedCall(x, 1, "hides", 2, 5);
        T.refusedCall(x, 1, "hides", 4, 0);
        T.refusedCall(x, 6, "hides", 1, 1);
        T.refusedCall(x, 6, "hides", 1, 2);
        T.refusedCall(x, 6, "hides", 2, 4);
        T.refusedCall(x, 6, "hides", 3, 4);
        T.sentence("==== 3.",
            "HIDES: the fewest ANSWERS of a SHEET that must be other ones, so that a RULE does not flag it (all"
            + " other SHEETS as they are): how many;");
        T.due("it is not flagged at all", x.hides(0, 1), 0);
        T.due("its own row", row(x, 2), 11);
        T.due("nor this one", x.hides(1, 4), 0);
        T.due("its own row", row(x, 2), 10);
        Asked.land(x, SIX + "law a 0 16;law b 0 16;law c 0 16;law d 0 16;law e 0 16;law f 0 16;door 0 0;");
        Asked.rules(x, "flag rare 1;");
        Asked.sheet(x, 0, 0, 1, 2, 0, 0, 0, 0, 0, 0);
        Asked.sheet(x, 0, 0, 1, 2, 1, 0, 1, 1, 1, 1);
        T.due("all of them", x.hides(0, 0), 6);
        T.due("the row", row(x, 6), 111111);
        T.due("one of them", x.hides(0, 1), 1);
        T.due("the row", row(x, 6), 111111);
        T.sentence("==== 3.", "Nothing is changed.");
        T.due("the SHEET", x.look(0, 7) + x.look(0, 12) + x.look(1, 8), 0);
        T.due("FLAGGED", x.flagged(0), 3);
        x.world(0, 16, 0);
        long before = x.look(0, 7);
        x.hides(0, 0);
        T.due("its TRUTH", x.look(0, 5), 2);
        T.due("its ANSWER", x.look(0, 7), before);
    }

    private static void hidesFirst() {
        T.sentence("==== 3.", "of several rows of ANSWERS the first (by QUESTIONS, the lesser ANSWER ahead).");
        KitchenSheets x = new KitchenSheets();
        Asked.land(x, "ask a 4;ask b 4;door 0 0;");
        Asked.rules(x, "flag same 1;flag not same 2;");
        for (int i = 0; i < 2; i++) {
            Asked.sheet(x, 0, 0, 1, 2, 1, 1);
        }
        T.due("01 is ahead of 10, 12, 13, 21, 31", x.hides(0, 0), 1);
        T.due("the row", row(x, 2), 1);
        Asked.sheet(x, 0, 0, 1, 2, 0, 1);
        T.due("others as they are: 10 then", x.hides(0, 0), 1);
        T.due("the row", row(x, 2), 10);
        Asked.sheet(x, 0, 0, 1, 2, 1, 0);
        T.due("12", x.hides(0, 1), 1);
        T.due("the row", row(x, 2), 12);
        Asked.sheet(x, 0, 0, 1, 2, 1, 2);
        Asked.sheet(x, 0, 0, 1, 2, 1, 3);
        T.due("21", x.hides(0, 1), 1);
        T.due("the row", row(x, 2), 21);
        Asked.sheet(x, 0, 0, 1, 2, 2, 1);
        Asked.sheet(x, 0, 0, 1, 2, 3, 1);
        T.due("all of one are there: two", x.hides(0, 1), 2);
        T.due("the row", row(x, 2), 0);
        Asked.sheet(x, 1, 0, 1, 2, 0, 0);
        T.due("another ASKER's is none", x.hides(0, 1), 2);
        Asked.sheet(x, 0, 0, 1, 2, 0, 0);
        T.due("02 then", x.hides(0, 1), 2);
        T.due("the row", row(x, 2), 2);
        Asked.sheet(x, 0, 0, 1, 2, 3, 3);
        Asked.sheet(x, 0, 0, 1, 2, 3, 3);
        Asked.sheet(x, 0, 0, 1, 2, 2, 2);
        T.due("to be like two others", x.hides(1, 12), 2);
        T.due("11 is ahead of 33", row(x, 2), 11);
    }

    private static void hidesByOdds() {
        T.sentence("==== 3.", "so that a RULE does not flag it");
        KitchenSheets x = new KitchenSheets();
        Asked.land(x, "ask a 3;law a 8 4 4;mind a 8 4 4;ask b 3;law b 1 14 1;mind b 14 1 1;door 0 0;cards 8 8;");
        Asked.rules(x, "flag made 9;flag made 8;flag made 1;flag made 8 and rare 64;");
        Asked.sheet(x, 0, 0, 1, 9, 2, 0);
        T.due("ODDS of 14 by 15", x.flagged(0) + x.flagged(1) + x.flagged(2) + x.flagged(3), 4);
        T.due("8 of sixteen is below 9, but 1 by 15 is ahead of it", x.hides(0, 0), 1);
        T.due("the row", row(x, 2), 21);
        T.due("1 by 15 is below 8", x.hides(1, 0), 1);
        T.due("the row", row(x, 2), 21);
        T.refusedCall(x, 6, "hides", 2, 0);
        T.due("a lesser ANSWER to a alone is rare, too", x.hides(3, 0), 1);
        T.due("the row", row(x, 2), 21);
        Asked.rules(x, "flag rare 9;");
        T.due("20 weighs 4, 00 weighs 8, 01 and 21 more", x.hides(0, 0), 1);
        T.due("the row", row(x, 2), 21);
        Asked.rules(x, "flag rare 8;");
        T.due("00 weighs 8", x.hides(0, 0), 1);
        T.due("the row", row(x, 2), 0);
    }

    private static void hidden() {
        T.sentence("Promise 36",
            "The ANSWER to a QUESTION by hides() latest with STATUS 0 (6: there was none, asked first; 1: no such"
            + " QUESTION then).");
        KitchenSheets x = with("flag same 1;flag amiss;");
        for (int question : new int[] {0, 1, 2, -1, MIN, MAX}) {
            T.refusedCall(x, 6, "hidden", question);
        }
        T.refusedCall(x, 6, "hides", 1, 1);
        T.refusedCall(x, 1, "hides", 1, 5);
        T.refusedCall(x, 6, "hidden", 0);
        T.due("hides", x.hides(0, 0), 1);
        T.span(x, 0, 1, 0, "hidden", 0);
        T.due("the row", row(x, 2), 10);
        T.refusedCall(x, 6, "hides", 1, 1);
        T.refusedCall(x, 1, "hides", 2, 0);
        T.due("the latest with STATUS 0", row(x, 2), 10);
        T.due("the next one", x.hides(0, 2), 0);
        T.due("its row", row(x, 2), 1);
        x.alter(2, 0, 1);
        T.due("it is left as it was", row(x, 2), 1);
        Asked.land(x, "ask a 2;ask b 2;ask c 2;door 0 0;");
        T.due("by another LAND", row(x, 2), 1);
        T.refusedCall(x, 1, "hidden", 2);
        Asked.land(x, "door 1 1;");
        Asked.sheet(x, 0, 0, 1, 2);
        T.due("without QUESTIONS", x.hides(0, 0), 0);
        T.refusedCall(x, 1, "hidden", 0);
    }

    // ---- 37, 38: worth, deters

    private static void worth() {
        T.sentence("==== 3.",
            "times 16 times the worth of a minute (0 to 99) are more than a risk (0 to 16) times a fine (0 to"
            + " 9,999).");
        KitchenSheets x = new KitchenSheets();
        T.due("of none", x.worth(99, 0, 0), 0);
        T.span(x, 0, 99, 0, "worth", 1, 1, 1);
        T.span(x, 0, 16, 1, "worth", 1, 1, 1);
        T.span(x, 0, 9999, 2, "worth", 1, 1, 1);
        Asked.land(x, "door 0 0;");
        Asked.sheet(x, 0, 0, 0, 101);
        Asked.sheet(x, 1, 0, 0, 102);
        T.due("101 by 16 by 99 is just 16 by 9,999", x.worth(99, 16, 9999), 2);
        T.due("a little less", x.worth(99, 16, 9998), 3);
        T.due("nothing is more than nothing", x.worth(0, 0, 0), 0);
        T.due("no fine", x.worth(1, 16, 0), 3);
        T.due("no risk", x.worth(1, 0, 9999), 3);
        T.due("1,616 by 16", x.worth(1, 16, 101), 2);
        T.due("1,632 by 16", x.worth(1, 16, 102), 0);
        T.due("1,616 by 1", x.worth(1, 1, 1615), 3);
        T.due("1,616 by 1", x.worth(1, 1, 1616), 2);
        Asked.land(x, "door 0 0;");
        for (int i = 0; i < 16; i++) {
            Asked.sheet(x, i % 4, 0, i, 1439);
        }
        T.due("all of sixteen, of four ASKERS", x.worth(99, 16, 9999), 65535);
    }

    private static void worthWays() {
        T.sentence("==== 3.",
            "the minutes that it took, and the way from the DOOR of the one ahead of it in ORDER of its ASKER (none"
            + " for the first)");
        KitchenSheets x = new KitchenSheets();
        Asked.land(x, "door 0 0;door 3 0;door 99 99;walk 7;");
        Asked.sheet(x, 0, 1, 200, 210);
        Asked.sheet(x, 0, 0, 100, 110);
        T.due("10 for the first, 13 for the later one", x.worth(1, 1, 160), 1);
        T.due("208", x.worth(1, 1, 207), 1);
        T.due("208", x.worth(1, 1, 208), 0);
        Asked.sheet(x, 0, 0, 150, 160);
        T.due("the one ahead of 2 is at its DOOR", x.worth(1, 1, 160), 1);
        Asked.sheet(x, 1, 2, 190, 200);
        T.due("one of another ASKER is not ahead of it", x.worth(1, 1, 160), 1);
        Asked.sheet(x, 0, 2, 150, 160);
        T.due("of one beginning that of the lesser number is ahead", x.worth(1, 1, 160), 17);
        T.due("139 minutes from the far DOOR, rounded up, and 10", x.worth(1, 1, 2383), 16);
        T.due("137 from there to the next one, and 10", x.worth(1, 1, 2351), 17);
        T.due("no more", x.worth(1, 1, 2352), 16);
        T.due("no more", x.worth(1, 1, 2384), 0);
        Asked.land(x, "door 0 0;door 3 0;walk 7;");
        Asked.sheet(x, 0, 0, 100, 110);
        Asked.sheet(x, 0, 1, 105, 115);
        T.due("whether it FITS or not", x.worth(1, 1, 160), 2);
    }

    private static void deters() {
        T.sentence("Promise 38", "DETERS (1; 6: not by 16).");
        KitchenSheets x = new KitchenSheets();
        T.due("none is there", x.deters(99, 0), 0);
        T.span(x, 0, 99, 0, "deters", 1, 1);
        T.span(x, 0, 9999, 1, "deters", 1, 1);
        T.sentence("==== 3.", "DETERS: the least risk with which none is WORTH it.");
        Asked.land(x, "door 0 0;door 3 0;walk 7;");
        Asked.sheet(x, 0, 0, 0, 20);
        T.due("320 by 1", x.deters(1, 320), 1);
        T.due("319 is not enough", x.deters(1, 319), 2);
        T.due("160 by 2", x.deters(1, 160), 2);
        T.due("159 is not enough", x.deters(1, 159), 3);
        T.due("20 by 16", x.deters(1, 20), 16);
        T.refusedCall(x, 6, "deters", 1, 19);
        T.refusedCall(x, 6, "deters", 1, 0);
        T.refusedCall(x, 1, "deters", 1, -1);
        T.due("of no worth", x.deters(0, 0), 0);
        Asked.sheet(x, 0, 1, 100, 118);
        T.due("21 minutes with the way", x.deters(1, 21), 16);
        T.refusedCall(x, 6, "deters", 1, 20);
        Asked.land(x, "door 0 0;");
        Asked.sheet(x, 0, 0, 0, 101);
        T.due("just by 16", x.deters(99, 9999), 16);
        Asked.sheet(x, 1, 0, 0, 102);
        T.refusedCall(x, 6, "deters", 99, 9999);
    }

    // ---- 39, 40: checked, found

    private static void checkedNumbers() {
        T.sentence("Promise 39", "CHECKED, for so much (0 to 999), by a SHARE: the set (1).");
        KitchenSheets x = new KitchenSheets();
        T.due("of none", x.checked(999, 8), 0);
        T.span(x, 0, 999, 0, "checked", 0, 8);
        T.span(x, 0, 16, 1, "checked", 9, 0);
        Asked.land(x, "door 0 0;");
        for (int i = 0; i < 16; i++) {
            Asked.sheet(x, 0, 0, 1, 2);
        }
        T.due("for nothing", x.checked(0, 16), 0);
        T.due("all of sixteen", x.checked(16, 16), 65535);
        T.due("what they are worth", x.found(), 65536);
        T.due("for less, without the last one", x.checked(15, 16), 32767);
        T.due("what they are worth", x.found(), 61440);
        T.due("for one", x.checked(1, 1), 1);
        T.due("what it is worth", x.found(), 256);
        T.due("worth nothing", x.checked(999, 0), 0);
        T.due("all of sixteen", x.checked(999, 8), 65535);
        T.due("worth nothing again", x.checked(999, 0), 0);
        T.due("sum", x.found(), 0);
    }

    private static void checkedCosts() {
        T.sentence("==== 3.", "each SHEET costs so much to check as STEPS from DOOR 0 to its DOOR and 1;");
        KitchenSheets x = new KitchenSheets();
        Asked.land(x, "door 50 50;door 53 46;door 0 0;walk 99;");
        Asked.sheet(x, 0, 1, 1, 2);
        T.due("3 and 4 and 1", x.checked(8, 8), 1);
        T.due("for less", x.checked(7, 8), 0);
        Asked.sheet(x, 0, 0, 1, 2);
        T.due("DOOR 0: 1", x.checked(1, 8), 2);
        T.due("both", x.checked(9, 8), 3);
        T.due("not both: the least", x.checked(8, 8), 1);
        Asked.sheet(x, 0, 2, 1, 2);
        T.due("all: 8, 1 and 101", x.checked(110, 8), 7);
        T.due("for less", x.checked(109, 8), 3);
        T.sentence("==== 3.", "of all sets of SHEETS that cost at most so much together");
        Asked.land(x, "door 0 0;door 99 99;door 1 2;");
        for (int i = 0; i < 5; i++) {
            Asked.sheet(x, 0, 1, 1, 2);
        }
        Asked.sheet(x, 0, 2, 1, 2);
        T.due("five by 199 and 4", x.checked(999, 8), 63);
        T.due("for less: not the last one", x.checked(998, 8), 31);
        T.due("four by 199 and 4", x.checked(994, 8), 47);
    }

    private static void checkedWorths() {
        T.sentence("==== 3.",
            "what its SHEETS are worth to it: 4,096 times ODDS by a SHARE, rounded down (0, if there are none);");
        KitchenSheets x = new KitchenSheets();
        Asked.land(x, "ask a 4;law a 8 8 0 0;mind a 4 0 12 0;door 0 0;");
        Asked.sheet(x, 0, 0, 1, 2, 0);
        T.due("a third", x.checked(9, 8), 1);
        T.due("rounded down", x.found(), 1365);
        Asked.sheet(x, 0, 0, 1, 2, 0);
        T.due("two thirds", x.checked(9, 8), 3);
        T.due("each is rounded down", x.found(), 2730);
        Asked.sheet(x, 0, 0, 1, 2, 1);
        Asked.sheet(x, 0, 0, 1, 2, 3);
        Asked.sheet(x, 0, 0, 1, 2, 2);
        T.due("what is worth nothing is none of it", x.checked(9, 8), 19);
        T.due("sum", x.found(), 2730 + 4096);
        T.due("there are none by 16 of 2, 3", x.checked(9, 16), 19);
        T.due("sum", x.found(), 3 * 4096);
        x.card(0, 2);
        T.due("the CARD counts: 7 by 9", x.checked(1, 8), 16);
        T.due("4 by 14 by that and 8 by 2", x.checked(2, 8), 17);
        T.due("sum", x.found(), 4096 + 3185);
    }

    private static void checkedLeast() {
        T.sentence("==== 3.", "of several the least set.");
        KitchenSheets x = new KitchenSheets();
        String land = "ask a 3;law a 9 4 3;mind a 3 4 9;door 0 0;door 1 0;door 1 1;";
        Asked.land(x, land);
        Asked.sheet(x, 0, 0, 1, 2, 0);
        Asked.sheet(x, 0, 1, 1, 2, 1);
        Asked.sheet(x, 0, 1, 1, 2, 1);
        Asked.sheet(x, 0, 2, 1, 2, 2);
        T.due("1 and 2, not 0 and 3", x.checked(4, 8), 6);
        T.due("sum", x.found(), 4096);
        T.due("0 and 1, not 3", x.checked(3, 8), 3);
        T.due("sum", x.found(), 3072);
        T.due("1, not 2", x.checked(2, 8), 2);
        T.due("0, 1 and 2, not 1 and 3", x.checked(5, 8), 7);
        T.due("1, 2, and 3, not 0, ..", x.checked(7, 8), 14);
        Asked.land(x, land);
        Asked.sheet(x, 0, 1, 1, 2, 1);
        Asked.sheet(x, 0, 0, 1, 2, 0);
        Asked.sheet(x, 0, 0, 1, 2, 0);
        T.due("0, not 1 and 2", x.checked(2, 8), 1);
        Asked.land(x, land);
        Asked.sheet(x, 0, 0, 1, 2, 0);
        Asked.sheet(x, 0, 0, 1, 2, 0);
        Asked.sheet(x, 0, 1, 1, 2, 1);
        T.due("0 and 1, not 2", x.checked(2, 8), 3);
    }

    private static void found() {
        T.sentence("Promise 40", "The sum by checked() latest with STATUS 0 (6).");
        KitchenSheets x = new KitchenSheets();
        T.refusedCall(x, 6, "found");
        T.refusedCall(x, 1, "checked", 1000, 8);
        T.refusedCall(x, 6, "found");
        x.checked(0, 0);
        T.due("nothing", x.found(), 0);
        T.due("status", x.status(), 0);
        Asked.land(x, "door 0 0;");
        Asked.sheet(x, 0, 0, 1, 2);
        x.checked(1, 8);
        T.due("half", x.found(), 2048);
        T.refusedCall(x, 1, "checked", 1, 17);
        T.refusedCall(x, 1, "checked", -1, 8);
        T.due("the latest with STATUS 0", x.found(), 2048);
        x.card(0, 1);
        x.land(0);
        T.due("as it was", x.found(), 2048);
    }

    // ---- 41, 42: world, score

    private static void worldNumbers() {
        T.sentence("==== 3.",
            "WORLD: a seed (0 to 9,999), a SHARE of MADE ones, one of HALF ones (of sixteen, together at most 16)");
        KitchenSheets x = new KitchenSheets();
        T.due("of none", x.world(0, 0, 0), 0);
        x = Asked.kitchen();
        T.span(x, 0, 9999, 0, "world", 0, 8, 8);
        T.span(x, 0, 16, 1, "world", 0, 0, 0);
        T.span(x, 0, 16, 2, "world", 0, 0, 0);
        T.span(x, 0, 7, 1, "world", 0, 0, 9);
        T.span(x, 0, 7, 2, "world", 0, 9, 0);
        T.span(x, 0, 0, 1, "world", 0, 0, 16);
        T.span(x, 0, 0, 2, "world", 0, 16, 0);
        T.refusedCall(x, 1, "world", 0, MAX, MAX);
        T.refusedCall(x, 1, "world", 0, 17, -1);
        T.refusedCall(x, 1, "world", 0, -1, 17);
        T.refusedCall(x, 1, "world", 0, MIN, MIN);
    }

    private static KitchenSheets ten(String land) {
        KitchenSheets x = new KitchenSheets();
        T.due(land, Asked.land(x, land + "door 0 0;") >= 0, true);
        int q = x.told(0);
        for (int i = 0; i < 10; i++) {
            Asked.sheet(x, Arrays.copyOf(new long[] {0, 0, 1, 2}, 4 + q));
        }
        return x;
    }

    private static void worldTruth() {
        T.sentence("==== 3.", "SHEET by SHEET: a draw by 16: less than SHARE: MADE; less than both together: HALF");
        T.sentence("==== 3.", "(without QUESTIONS no such draw, from 0); else ASKED.");
        KitchenSheets x = ten("");
        // The first ten draws by 16 from seed 0.
        int[] draws = {3, 2, 0, 7, 8, 14, 10, 7, 6, 1};
        for (int share = 0; share <= 16; share++) {
            int half = Math.min(5, 16 - share);
            int asked = 0;
            for (int d : draws) {
                asked += d >= share + half ? 1 : 0;
            }
            T.due("ASKED of SHARE " + share, x.world(0, share, half), asked);
            for (int i = 0; i < 10; i++) {
                int truth = draws[i] < share ? 2 : draws[i] < share + half ? 3 : 1;
                T.due("TRUTH of " + i, x.look(i, 5), truth);
                T.due("from", x.look(i, 6), truth == 3 ? 0 : -1);
            }
        }
        T.sentence("==== 3.",
            "Draws: s, at first the seed, becomes what is left of s times 2,053 and 13,849 by 65,536; the draw by n"
            + " is the rest of s by 8, rounded down, by n.");
        int[] last = {12, 1, 11, 11, 12, 15, 14, 12, 3, 4};
        T.due("seed 9,999", x.world(9999, 12, 2), 2);
        for (int i = 0; i < 10; i++) {
            T.due("TRUTH of " + i, x.look(i, 5), last[i] < 12 ? 2 : last[i] < 14 ? 3 : 1);
        }
        T.due("a WORLD begins with its seed", x.world(0, 3, 0), 7);
        T.due("once more", x.world(0, 3, 0), 7);
    }

    private static KitchenSheets sure(int questions) {
        StringBuilder s = new StringBuilder();
        for (int q = 0; q < questions; q++) {
            char c = (char) ('a' + q);
            s.append("ask ").append(c).append(" 2;law ").append(c).append(" 16 0;mind ").append(c).append(" 0 16;");
        }
        return ten(s.toString());
    }

    private static void drawn(int questions, int seed, int share, int half, int from, long row) {
        KitchenSheets x = sure(questions);
        x.world(seed, share, half);
        String call = questions + " QUESTIONS, seed " + seed + ", " + share + ", " + half;
        T.due(call + " from", x.look(0, 6), from);
        long told = 0;
        for (int q = 0; q < questions; q++) {
            told = told * 10 + x.look(0, 7 + q);
        }
        T.due(call + " row", told, row);
    }

    private static void worldHalf() {
        T.sentence("==== 3.", "HALF, from the QUESTION on that a draw by how many there are tells");
        T.sentence("==== 3.",
            "tells its ANSWER: the first with which the WEIGHTS of its row (by LAW, or MIND: of MADE ones, of HALF"
            + " ones from there on) up to it are more than that together.");
        // s by 8 of the second draw: 402 from seed 0, 2,965 from seed 1, 4,513 from seed 9,999.
        drawn(1, 0, 0, 4, 0, 1);
        drawn(2, 0, 0, 4, 0, 11);
        drawn(4, 0, 0, 4, 2, 11);
        drawn(5, 0, 0, 4, 2, 111);
        drawn(6, 0, 0, 16, 0, 111111);
        drawn(6, 1, 0, 4, 1, 11111);
        drawn(4, 1, 2, 2, 1, 111);
        drawn(3, 1, 0, 4, 1, 11);
        drawn(2, 1, 3, 1, 1, 1);
        drawn(6, 9999, 0, 13, 1, 11111);
        drawn(5, 9999, 12, 1, 3, 11);
        drawn(6, 9999, 0, 12, -1, 0);
        drawn(6, 9999, 13, 0, -1, 111111);
        drawn(6, 0, 3, 0, -1, 0);
        drawn(6, 0, 4, 0, -1, 111111);
    }

    private static void answered(String ask, int seed, int share, int half, int due) {
        KitchenSheets x = ten(ask);
        x.world(seed, share, half);
        T.due(ask + " seed " + seed, x.look(0, 7), due);
    }

    private static void worldAnswers() {
        T.sentence("==== 3.",
            "Then QUESTION by QUESTION a draw by 16 tells its ANSWER: the first with which the WEIGHTS of its row");
        // Seed 0: 3, then 2, then 0.
        answered("ask a 2;law a 2 14;", 0, 3, 0, 1);
        answered("ask a 2;law a 3 13;", 0, 3, 0, 0);
        answered("ask a 4;law a 0 2 0 14;", 0, 3, 0, 3);
        answered("ask a 4;law a 0 2 1 13;", 0, 3, 0, 2);
        answered("ask a 4;law a 0 3 0 13;", 0, 3, 0, 1);
        answered("ask a 2;mind a 2 14;law a 16 0;", 0, 4, 0, 1);
        answered("ask a 2;mind a 3 13;law a 0 16;", 0, 4, 0, 0);
        answered("ask a 2;mind a 0 16;law a 16 0;", 0, 3, 1, 1);
        answered("ask a 2;mind a 1 15;law a 0 16;", 0, 3, 1, 0);
        // Seed 1: 3, 5, 0, 5, 15: the third SHEET of those that have one QUESTION answers by 5, 15 is its TRUTH.
        KitchenSheets x = ten("ask a 2;law a 15 1;");
        x.world(1, 0, 0);
        T.due("5", x.look(0, 7), 0);
        T.due("5", x.look(1, 7), 0);
        T.due("15", x.look(2, 7), 1);
        x = ten("ask a 2;law a 16 0;");
        x.world(1, 0, 0);
        T.due("15 is less than 16", x.look(2, 7), 0);
        x = ten("ask a 2;law a 14 2;");
        x.world(0, 0, 0);
        T.due("14 is not less than 14", x.look(2, 7), 1);
        x = ten("ask a 2;law a 15 1;");
        x.world(0, 0, 0);
        T.due("14 is less than 15", x.look(2, 7), 0);
        T.sentence("==== 2.", "in the row of that QUESTION's ANSWER, if it goes by one");
        x = ten("ask a 3;law a 0 0 16;mind a 0 16 0;ask b 3;law b by a 16 0 0 16 0 0 0 0 16;mind b by a 16 0 0 0 16 0 16 0 0;"
            + "ask c 3;law c by a 16 0 0 16 0 0 0 16 0;mind c by b 16 0 0 16 0 0 0 0 16;");
        x.world(0, 3, 0);
        T.due("by the LAW", x.look(0, 7) * 100 + x.look(0, 8) * 10 + x.look(0, 9), 221);
        x.world(0, 4, 0);
        T.due("by the MIND", x.look(0, 7) * 100 + x.look(0, 8) * 10 + x.look(0, 9), 110);
        // Seed 1: the second draw, 2,965, by three is 1.
        x.world(1, 0, 4);
        T.due("by the MIND from b on", x.look(0, 6), 1);
        T.due("in the row of a's ANSWER by the LAW", x.look(0, 7) * 100 + x.look(0, 8) * 10 + x.look(0, 9), 200);
    }

    private static void worldKeeps() {
        T.sentence("==== 3.", "CARDS stay. TRUTH is known then.");
        KitchenSheets x = Asked.kitchen();
        x.card(1, 1);
        x.card(4, 2);
        x.world(1, 5, 6);
        T.due("CARDS", x.look(0, 4) * 100 + x.look(1, 4) * 10 + x.look(4, 4), 12);
        long[][] kept = {{0, 0, 600, 620}, {0, 1, 630, 650}, {0, 2, 640, 660}, {0, 0, 690, 700}, {1, 1, 600, 610}};
        for (int i = 0; i < 5; i++) {
            for (int what = 0; what < 4; what++) {
                T.due("SHEET " + i + " look " + what, x.look(i, what), kept[i][what]);
            }
            T.due("TRUTH of " + i, x.look(i, 5) >= 1 && x.look(i, 5) <= 3, true);
        }
        T.refusedCall(x, 1, "world", 10000, 0, 0);
        T.due("a refused one leaves all", x.look(0, 5) * 100 + x.look(1, 5) * 10 + x.look(1, 6), 231);
        T.due("all ASKED", x.world(1, 0, 0), 5);
        T.due("none ASKED", x.world(1, 16, 0), 0);
        T.due("none ASKED", x.world(1, 0, 16), 0);
    }

    private static void score() {
        T.sentence("Promise 42", "SCORE of a RULE, what 0: CAUGHT, 1: WRONGED, 2: MISSED (1).");
        KitchenSheets x = new KitchenSheets();
        T.refusedCall(x, 1, "score", 0, 0);
        x = with("flag late 610;flag late 9999;flag same 0;");
        T.span(x, 0, 2, 0, "score", 0, 0);
        T.span(x, 0, 2, 1, "score", 0, 0);
        scores(x, 2, 0, 0, 0);
        T.sentence("==== 3.",
            "how many of those FLAGGED are MADE or HALF (CAUGHT), are ASKED (WRONGED), how many MADE or HALF ones"
            + " are not FLAGGED (MISSED).");
        x.world(0, 5, 6);
        T.due("MADE, HALF, HALF, ASKED, HALF", x.look(0, 5) * 100 + x.look(3, 5) * 10 + x.look(4, 5), 213);
        scores(x, 0, 3, 1, 1);
        scores(x, 1, 0, 0, 4);
        scores(x, 2, 4, 1, 0);
        x.world(0, 0, 0);
        scores(x, 0, 0, 4, 0);
        scores(x, 1, 0, 0, 0);
        x.world(0, 16, 0);
        scores(x, 0, 4, 0, 1);
        T.sentence("==== 3.", "A SHEET that comes later is not known, and counts for none.");
        Asked.sheet(x, 0, 0, 900, 910, 0, 0);
        scores(x, 2, 5, 0, 0);
        scores(x, 1, 0, 0, 5);
        x.alter(0, 0, 1);
        scores(x, 2, 4, 0, 0);
        scores(x, 1, 0, 0, 4);
        Asked.land(x, "door 0 0;");
        scores(x, 2, 0, 0, 0);
        for (int i = 0; i < 15; i++) {
            Asked.sheet(x, 0, 0, 1, 2);
        }
        x.mark();
        Asked.sheet(x, 0, 0, 1, 2);
        x.world(0, 8, 8);
        scores(x, 1, 0, 0, 16);
        scores(x, 2, 16, 0, 0);
        x.back();
        scores(x, 1, 0, 0, 0);
        x.world(0, 0, 16);
        scores(x, 1, 0, 0, 15);
    }

    private static void scores(KitchenSheets x, int rule, int caught, int wronged, int missed) {
        T.due("CAUGHT by " + rule, x.score(rule, 0), caught);
        T.due("WRONGED by " + rule, x.score(rule, 1), wronged);
        T.due("MISSED by " + rule, x.score(rule, 2), missed);
    }

    // ---- 43, 44: mark, back

    private static void markKeepsLand() {
        T.sentence("==== 3.",
            "MARKS, at most 3: the LAND, SHEETS, CARDS, TRUTH, RULES are kept as they are; all is taken back to the"
            + " latest MARK, which is gone then.");
        KitchenSheets x = new KitchenSheets();
        Asked.land(x, "ask a 2;ask b 3;law b by a 1 2 13 3 4 9;mind b 5 5 6;door 3 4;door 99 0;walk 77;cards 1 15;");
        Asked.rules(x, "flag late 10;flag amiss and not card 1;");
        x.mark();
        Asked.land(x, "ask a 4;ask b 4;ask c 2;mind b by a 4 4 4 4 4 4 4 4 4 4 4 4 4 4 4 4;law c by b 8 8 8 8 8 8 8 8;"
            + "door 1 1;door 1 1;door 1 1;cards 2 2;walk 2;");
        Asked.rules(x, "flag same 0;");
        T.due("back", x.back(), 0);
        long[] told = {2, 2, 0, 2, 77, 1, 15};
        for (int what = 0; what < 7; what++) {
            T.due("told " + what, x.told(what), told[what]);
        }
        T.due("ANSWERS", x.question(0, 0) * 10 + x.question(1, 0), 23);
        T.due("law by", x.question(1, 1), 0);
        T.refusedCall(x, 6, "question", 1, 2);
        long[] law = {1, 2, 13, 3, 4, 9};
        for (int i = 0; i < 6; i++) {
            T.due("law " + i, x.weight(1, false, i / 3, i % 3), law[i]);
        }
        T.due("law without", x.weight(0, false, 0, 0), 8);
        T.due("mind", x.weight(1, true, 0, 1) * 10 + x.weight(1, true, 0, 2), 56);
        T.refusedCall(x, 1, "weight", 1, 1, 1, 0);
        T.due("way: 100 by 77", x.way(0, 1), 770);
        Asked.sheet(x, 0, 0, 5, 11, 1, 2);
        Asked.sheet(x, 0, 0, 5, 10, 1, 2);
        T.due("RULES", x.flagged(0) * 10 + x.flagged(1), 13);
        T.due("the LAND of the next one begins anew", Asked.land(x, "ask a 2;ask b 2;law b 8 8;walk 3;"), 2);
    }

    private static void markKeepsRules() {
        T.sentence("==== 3.", "the LAND, SHEETS, CARDS, TRUTH, RULES are kept as they are");
        KitchenSheets x = with("flag late 655;flag not (late 655 or same 1 and card 0) and short 15;"
            + "flag same 1 and not not not late 650;");
        long[] due = {12, 16, 1};
        for (int again = 0; again < 3; again++) {
            T.due("mark", x.mark(), 1);
            for (int i = 0; i < 2; i++) {
                Asked.rules(x, "flag same 0 or card 1 or card 2 or amiss;"
                    + "flag amiss and not late 0 and late 1 and late 2 and late 3;");
                T.due("others", x.flagged(0) * 10 + x.flagged(1), 310);
            }
            T.due("back", x.back(), 0);
            T.due("RULES", x.told(3), 3);
            for (int rule = 0; rule < 3; rule++) {
                T.due("RULE " + rule, x.flagged(rule), due[rule]);
            }
        }
    }

    private static void markKeepsSheets() {
        T.sentence("Promise 44", "All is taken back to the latest MARK: how many there are left (6).");
        KitchenSheets x = Asked.kitchen();
        x.card(0, 1);
        x.card(4, 2);
        x.world(1, 5, 6);
        long[][] before = looks(x, 5);
        x.mark();
        x.card(0, 0);
        x.card(1, 2);
        x.card(4, 1);
        x.world(9999, 8, 8);
        for (int i = 0; i < 5; i++) {
            x.alter(i, 0, i % 2);
            x.alter(i, 1, i / 2 % 2);
        }
        Asked.sheet(x, 3, 2, 9, 99, 1, 1);
        T.due("back", x.back(), 0);
        T.due("SHEETS", x.told(2), 5);
        same(before, looks(x, 5));
        T.refusedCall(x, 1, "look", 5, 0);
        T.due("the next one is SHEET 5", Asked.sheet(x, 1, 0, 1, 2, 0, 0), 5);
        T.due("its CARD and TRUTH", x.look(5, 4) * 10 + x.look(5, 5), 0);
        x.world(0, 4, 4);
        x.mark();
        long[][] six = looks(x, 6);
        Asked.land(x, "door 0 0;door 0 0;door 0 0;door 0 0;");
        T.due("without SHEETS", x.told(2), 0);
        for (int i = 0; i < 7; i++) {
            T.due("others", Asked.sheet(x, 3, 3, i, 1000 + i), i);
        }
        x.world(7, 0, 16);
        T.due("back", x.back(), 0);
        T.due("SHEETS", x.told(2), 6);
        same(six, looks(x, 6));
        T.refusedCall(x, 6, "back");
    }

    private static long[][] looks(KitchenSheets x, int sheets) {
        long[][] told = new long[sheets][9];
        for (int i = 0; i < sheets; i++) {
            for (int what = 0; what < 9; what++) {
                told[i][what] = x.look(i, what);
            }
        }
        return told;
    }

    private static void same(long[][] before, long[][] behind) {
        for (int i = 0; i < before.length; i++) {
            for (int what = 0; what < before[i].length; what++) {
                T.due("SHEET " + i + " look " + what, behind[i][what], before[i][what]);
            }
        }
    }

    private static void markKeepsNoMore() {
        T.sentence("==== 3.", "the LAND, SHEETS, CARDS, TRUTH, RULES are kept as they are");
        KitchenSheets x = with("flag same 1;");
        x.mark();
        x.tray(0, 3, 2);
        x.write(0, 1, 77);
        T.due("hides", x.hides(0, 0), 1);
        x.checked(1, 8);
        x.odds(0, 8);
        Asked.land(x, "ask ~");
        Asked.feed(x, "walk 5;");
        T.due("back", x.back(), 0);
        T.due("TRAYS are as they were left", x.read(0, 1), 77);
        T.due("hidden", x.hidden(0), 1);
        T.due("found", x.found(), 2340);
        T.due("the FRACTION", x.top() * 10 + x.bottom(), 47);
        T.due("the FAULT", x.fault(0) * 10 + x.fault(1), 14);
        T.due("the tape", x.feed(0, 0, 0, 0, 0), 40);
    }

    private static void marksFull() {
        T.sentence("Promise 43", "A MARK more: how many there are (4).");
        KitchenSheets x = new KitchenSheets();
        T.refusedCall(x, 6, "back");
        for (int i = 1; i <= 3; i++) {
            T.due("mark", x.mark(), i);
            T.due("status", x.status(), 0);
            Asked.land(x, SIX.substring(0, 8 * i));
        }
        T.refusedCall(x, 4, "mark");
        T.refusedCall(x, 4, "mark");
        T.due("the LAND is left", x.told(0), 3);
        for (int i = 2; i >= 0; i--) {
            T.due("back", x.back(), i);
            T.due("status", x.status(), 0);
            T.due("the LAND of MARK " + i, x.told(0), i);
        }
        T.refusedCall(x, 6, "back");
        T.due("nothing is taken back", x.told(0), 0);
        T.due("one more then", x.mark(), 1);
    }

    private static void marksStandAlone() {
        T.sentence("==== 3.", "all is taken back to the latest MARK, which is gone then.");
        KitchenSheets x = new KitchenSheets();
        Asked.land(x, "ask a 4;door 0 0;");
        Asked.sheet(x, 0, 0, 1, 2, 0);
        x.mark();
        x.alter(0, 0, 1);
        x.mark();
        x.mark();
        x.alter(0, 0, 2);
        T.due("back", x.back(), 2);
        T.due("of the third", x.look(0, 7), 1);
        x.alter(0, 0, 3);
        T.due("back", x.back(), 1);
        T.due("of the second, the same", x.look(0, 7), 1);
        x.alter(0, 0, 2);
        T.due("one more", x.mark(), 2);
        x.alter(0, 0, 3);
        T.due("back", x.back(), 1);
        T.due("of that one", x.look(0, 7), 2);
        T.due("back", x.back(), 0);
        T.due("of the first", x.look(0, 7), 0);
        x.alter(0, 0, 3);
        T.refusedCall(x, 6, "back");
        T.due("it is gone", x.look(0, 7), 3);
    }
}
