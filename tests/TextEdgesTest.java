/**
 * The sentences of the document that name a boundary of a TEXT: a LAND, RULES, their TOKENS and their FAULTS.
 * In a text that is told here a ^ marks the place at which the FAULT is due; it is no byte of the text.
 */
public final class TextEdgesTest {
    private static final Asked T = new Asked();
    private static final String TERMS = "Terms";
    private static final String RULES = "==== 3.";

    // What can't stand at a place: TOKENS of all other kinds. The end of the text is asked beside these.
    private static final String[] NO_PART = {"a", "by", "flag", "asks", "doo", "2", ";", "(", ")", "abcdefghi"};
    private static final String[] NO_NAME = {"2", "1234", ";", "(", ")", "ask", "law", "mind", "by", "door", "walk", "cards",
        "abcdefghi", "askaskaskask"};
    private static final String[] NO_NUMBER = {"a", "ask", "by", ";", "(", ")", "abcdefghi"};
    private static final String[] NO_BY_NOR_NUMBER = {"a", "ask", "byy", "b", ";", "(", ")", "abcdefghi"};
    private static final String[] NO_END = {"a", "ask", "by", "(", ")", "abcdefghi"};
    private static final String[] NO_RULE = {"amiss", "or", "and", "not", "ask", "flags", "fla", "2", ";", "(", ")", "abcdefghi"};
    private static final String[] NO_TEST = {"flag", "or", "and", "a", "cards", "mades", "amis", "2", ";", ")", "abcdefghi"};
    private static final String[] NO_MORE = {"flag", "not", "amiss", "same", "ors", "an", "2", "(", "abcdefghi"};

    public static void main(String[] args) {
        tapeOfLand();
        tokensGoOn();
        everyByte();
        everyByteBehindAName();
        everyByteInRules();
        digits();
        parts();
        weightParts();
        names();
        namesTold();
        namesNotTold();
        numbersThatCannotBe();
        toldAlready();
        tooMany();
        weightsTooMany();
        weightsTooFew();
        rowsNotSixteen();
        leastKind();
        firstAlong();
        landsTaken();
        weightsWithout();
        fullLand();
        rulesTape();
        rulesParts();
        rulesNumbers();
        rulesWithin();
        rulesTooMany();
        rulesLeastKind();
        rulesTaken();
        T.end("TextEdgesTest");
    }

    /** An object with a LAND of one QUESTION, one DOOR, a SHEET, and one RULE. */
    private static KitchenSheets old() {
        KitchenSheets x = new KitchenSheets();
        Asked.land(x, "ask old 3;door 7 7;walk 33;cards 5 6;");
        Asked.sheet(x, 1, 0, 10, 20, 2);
        Asked.rules(x, "flag late 19;");
        return x;
    }

    private static void oldStays(KitchenSheets x, String text) {
        long[] told = {1, 1, 1, 1, 33, 5, 6};
        for (int what = 0; what < 7; what++) {
            T.due(text + ": the old one stays, told " + what, x.told(what), told[what]);
        }
        T.due(text + ": the SHEET stays", x.look(0, 7), 2);
        T.due(text + ": the RULE stays", x.flagged(0), 1);
        T.due(text + ": the tape is empty", x.feed(0, 0, 0, 0, 0), 20);
    }

    private static void fault(boolean isLand, String marked, int kind) {
        int place = marked.indexOf('^');
        String text = marked.substring(0, place) + marked.substring(place + 1);
        KitchenSheets x = old();
        T.refused(x, marked, isLand ? Asked.land(x, text) : Asked.rules(x, text), 9);
        T.due(marked + " kind", x.fault(0), kind);
        T.due(marked + " place", x.fault(1), place);
        oldStays(x, marked);
    }

    private static void landFault(String marked, int kind) {
        fault(true, marked, kind);
    }

    private static void ruleFault(String marked, int kind) {
        fault(false, marked, kind);
    }

    private static KitchenSheets land(String text, int questions) {
        KitchenSheets x = new KitchenSheets();
        T.due(text, Asked.land(x, text), questions);
        T.due(text + " status", x.status(), 0);
        T.due(text + " fault", x.fault(0), 0);
        T.due(text + " place", x.fault(1), -1);
        return x;
    }

    private static KitchenSheets rules(String text, int many) {
        KitchenSheets x = old();
        T.due(text, Asked.rules(x, text), many);
        T.due(text + " status", x.status(), 0);
        T.due(text + " fault", x.fault(0), 0);
        T.due(text + " place", x.fault(1), -1);
        T.due(text + " told", x.told(3), many);
        return x;
    }

    /** No one of these can stand behind what is told; nor can the end, if there are blanks ahead of it too. */
    private static void cannotStand(boolean isLand, String ahead, String[] tokens, String behind) {
        for (String token : tokens) {
            fault(isLand, ahead + " ^" + token + behind, 2);
        }
        fault(isLand, ahead + "^", 2);
        fault(isLand, ahead + " \n ^", 2);
    }

    // ---- the LAND: bytes and TOKENS

    private static void tapeOfLand() {
        T.sentence(TERMS, "A LAND is a TEXT of at most 700 bytes.");
        KitchenSheets x = land(Asked.many(" ", 692) + "ask a 4;", 1);
        T.due("the last of 700 bytes counts", x.question(0, 0), 4);
        landFault(Asked.many(" ", 693) + "ask a 4^", 2);
        landFault(Asked.many(" ", 699) + "^~", 1);
        T.sentence("Promise 10", "The first n bytes of the tape (which is empty then) are the LAND");
        String tape = "ask a 2;ask b 3;walk 12345;";
        int[][] due = {{0, 0, -1}, {1, 2, 0}, {3, 2, 3}, {4, 2, 4}, {5, 2, 5}, {7, 2, 7}, {8, 0, -1}, {9, 2, 8}, {16, 0, -1},
            {20, 2, 20}, {21, 2, 21}, {22, 2, 22}, {23, 2, 23}, {24, 4, 21}, {25, 4, 21}, {26, 1, 21}, {27, 1, 21}};
        for (int[] d : due) {
            x = old();
            Asked.feed(x, tape);
            T.due("land " + d[0], x.land(d[0]), d[1] != 0 ? -1 : d[0] / 8);
            T.due("kind " + d[0], x.fault(0), d[1]);
            T.due("place " + d[0], x.fault(1), d[2]);
            T.due("empty then " + d[0], x.feed(0, 0, 0, 0, 0), 20);
        }
        T.sentence("Promise 10", "1: n below 0, or more than the tape has, too");
        x = old();
        T.refused(x, "land of the empty tape", x.land(1), 1);
        Asked.feed(x, "ask a 4;ask b 2;    ");
        T.refused(x, "below 0", x.land(-1), 1);
        T.refused(x, "far below 0", x.land(Integer.MIN_VALUE), 1);
        T.refused(x, "one more than the tape has", x.land(21), 1);
        T.refused(x, "far more", x.land(Integer.MAX_VALUE), 1);
        T.due("the LAND stays", x.question(0, 0) * 10 + x.told(2), 31);
        T.due("the tape stays; all of it", x.land(20), 2);
        T.due("land of no bytes", x.land(0), 0);
    }

    private static void tokensGoOn() {
        T.sentence(TERMS, "TOKENS, as long as they go, between them blanks (10, 32)");
        land("", 0);
        land(" ", 0);
        land("\n", 0);
        land("\n  \n ask\na\n\n2 ; \n ask   b 4\n;\n", 2);
        landFault("^aska 2;", 2);
        landFault("ask a ^22;", 4);
        landFault("ask a 2 ^2;", 2);
        landFault("ask a ^b 2;", 2);
        landFault("walk ^991;", 4);
        landFault("^doorway 1 1;", 2);
        landFault("door 1 1^", 2);
        KitchenSheets x = land("ask a2;law a8 8;ask b3;mind b by a1 2 13 0 8 8;", 2);
        T.due("a WORD ends at a digit, a NUMBER at a letter", x.weight(1, true, 1, 2), 8);
    }

    private static int kindOfFirst(int b) {
        boolean begins = b >= 'a' && b <= 'z' || b >= '0' && b <= '9' || b == ';' || b == '(' || b == ')';
        return b == 10 || b == 32 ? 0 : begins ? 2 : 1;
    }

    private static void everyByte() {
        T.sentence(TERMS, "between them blanks (10, 32): WORDS (small letters), NUMBERS (1 to 4 digits), SIGNS ; ( )");
        for (int b = 0; b < 256; b++) {
            KitchenSheets x = old();
            T.due("byte " + b, Asked.land(x, "ask a 2;" + (char) b), kindOfFirst(b) == 0 ? 1 : -1);
            T.due("byte " + b + " kind", x.fault(0), kindOfFirst(b));
            T.due("byte " + b + " place", x.fault(1), kindOfFirst(b) == 0 ? -1 : 8);
        }
    }

    private static void everyByteBehindAName() {
        T.sentence(TERMS, "1 no TOKEN begins so");
        for (int b = 0; b < 256; b++) {
            KitchenSheets x = old();
            int got = Asked.land(x, "ask a" + (char) b + "2;");
            boolean taken = b == 10 || b == 32 || b == '0' || b >= 'a' && b <= 'z';
            int kind = taken ? 0 : b >= '1' && b <= '9' ? 4 : b == ';' || b == '(' || b == ')' ? 2 : 1;
            T.due("byte " + b, got, taken ? 1 : -1);
            T.due("byte " + b + " kind", x.fault(0), kind);
            T.due("byte " + b + " place", x.fault(1), taken ? -1 : 5);
        }
    }

    private static void everyByteInRules() {
        T.sentence(RULES, "RULES are a TEXT of at most 300 bytes, of such TOKENS");
        for (int b = 0; b < 256; b++) {
            KitchenSheets x = old();
            T.due("byte " + b, Asked.rules(x, "flag amiss;" + (char) b), kindOfFirst(b) == 0 ? 1 : -1);
            T.due("byte " + b + " kind", x.fault(0), kindOfFirst(b));
            T.due("byte " + b + " place", x.fault(1), kindOfFirst(b) == 0 ? -1 : 11);
        }
    }

    private static void digits() {
        T.sentence(TERMS, "1 no TOKEN begins so (a NUMBER of 5 digits and more: at its first)");
        land("ask a 2;ask b 02;ask c 002;ask d 0002;", 4);
        T.due("four digits", land("walk 0099;", 0).told(4), 99);
        landFault("ask a ^00002;", 1);
        landFault("ask a ^12345;", 1);
        landFault("ask a ^4294967298;", 1);
        landFault("ask a ^" + Asked.many("0", 100) + "2;", 1);
        landFault("ask a ^9999;", 4);
        landFault("ask a ^200002;", 1);
        ruleFault("flag same ^00001;", 1);
        ruleFault("flag same ^18446744073709551617;", 1);
        rules("flag same 9999 or same 0001;", 1);
    }

    // ---- the LAND: what stands where

    private static void parts() {
        T.sentence(TERMS,
            "LAND: {PART}. PART: ask NAME NUMBER ; or law NAME [by NAME] NUMBER {NUMBER} ; or mind NAME [by NAME]"
            + " NUMBER {NUMBER} ; or door NUMBER NUMBER ; or walk NUMBER ; or cards NUMBER NUMBER ;");
        for (String token : NO_PART) {
            landFault("^" + token, 2);
            landFault("ask a 2; ^" + token + " 2;", 2);
        }
        T.sentence(TERMS, "2 it can't stand there (the end: the text's length;");
        cannotStand(true, "ask", NO_NAME, " 2;");
        cannotStand(true, "ask a", NO_NUMBER, ";");
        cannotStand(true, "ask a 2", NO_END, ";");
        landFault("ask a 2 ^2;", 2);
        cannotStand(true, "door", NO_NUMBER, " 1;");
        cannotStand(true, "door 0", NO_NUMBER, ";");
        cannotStand(true, "door 0 99", NO_END, ";");
        landFault("door 0 99 ^0;", 2);
        cannotStand(true, "walk", NO_NUMBER, ";");
        cannotStand(true, "walk 99", NO_END, ";");
        landFault("walk 99 ^9;", 2);
        cannotStand(true, "cards", NO_NUMBER, " 1;");
        cannotStand(true, "cards 0", NO_NUMBER, ";");
        cannotStand(true, "cards 0 16", NO_END, ";");
        landFault("cards 0 16 ^1;", 2);
    }

    private static void weightParts() {
        for (String table : new String[] {"law", "mind"}) {
            T.sentence(TERMS, table + " NAME [by NAME] NUMBER {NUMBER} ;");
            String ahead = "ask a 2;ask b 2;" + table;
            cannotStand(true, ahead, NO_NAME, " 8 8;");
            cannotStand(true, ahead + " b", NO_BY_NOR_NUMBER, " 8 8;");
            cannotStand(true, ahead + " b by", NO_NAME, " 8 8 8 8;");
            cannotStand(true, ahead + " b by a", NO_NUMBER, ";");
            landFault(ahead + " b by a ^by a 8 8 8 8;", 2);
            String[] noWeight = {"a", "ask", "by", "(", ")", "abcdefghi"};
            cannotStand(true, ahead + " b 8", noWeight, ";");
            cannotStand(true, ahead + " b by a 8 8", noWeight, ";");
            cannotStand(true, ahead + " b by a 8 8 8", noWeight, ";");
            cannotStand(true, ahead + " b 8 8", NO_END, ";");
            cannotStand(true, ahead + " b by a 8 8 8 8", NO_END, ";");
        }
    }

    private static void names() {
        T.sentence(TERMS, "NAME: a WORD of 1 to 8 letters that is none of ask, law, mind, by, door, walk, cards.");
        KitchenSheets x = land("ask a 2;ask z 3;ask abcdefgh 4;ask zzzzzzzz 2;law zzzzzzzz by abcdefgh 16 0 15 1 14 2 13 3;", 4);
        T.due("a NAME of eight letters", x.question(3, 1), 2);
        T.due("its rows", x.weight(3, false, 3, 1), 3);
        x = land("ask abcdefgh 2;ask bbcdefgh 3;ask abcdefgi 4;mind abcdefgi by bbcdefgh 8 8 0 0 4 4 4 4 0 0 0 16;", 3);
        T.due("NAMES differ in the first, in the last letter", x.question(2, 2), 1);
        land("ask as 2;ask aska 2;ask b 2;ask byy 2;ask y 2;ask card 2;", 6);
        land("ask flag 2;ask or 2;ask and 2;ask not 2;ask same 2;ask short 2;", 6);
        land("ask late 2;ask rare 2;ask made 2;ask card 2;ask amiss 2;ask doors 2;", 6);
        T.sentence(TERMS, "also a WORD of 9 letters and more where a NAME must stand");
        landFault("ask ^abcdefghi 2;", 2);
        landFault("ask ^abcdefghijklmnopqrstuvwxyz 2;", 2);
        landFault("ask abcdefgh 2;law ^abcdefghi 8 8;", 2);
        landFault("ask bcdefghi 2;mind ^abcdefghi 8 8;", 2);
        landFault("ask a 2;ask b 2;law b by ^aaaaaaaaa 8 8 8 8;", 2);
        landFault("^asssssssssk a 2;", 2);
    }

    private static void namesTold() {
        T.sentence(TERMS, "3 ask with a NAME that is a QUESTION already;");
        landFault("ask a 2;ask ^a 2;", 3);
        landFault("ask a 2;ask b 2;ask ^b 3;", 3);
        landFault("ask a 2;ask b 2;ask c 2;ask d 2;ask e 2;ask ^a 2;", 3);
        landFault("ask abcdefgh 2;law abcdefgh 8 8;ask ^abcdefgh 2;", 3);
        KitchenSheets x = old();
        T.due("a NAME of the LAND ahead is none of this one", Asked.land(x, "ask old 2;"), 1);
        T.refused(x, "a LAND with a FAULT", Asked.land(x, "ask new 2;ask new 2;"), 9);
        T.due("its NAMES are none either", Asked.land(x, "ask new 2;"), 1);
    }

    private static void namesNotTold() {
        for (String table : new String[] {"law", "mind"}) {
            T.sentence(TERMS, "law, mind with one that is none told ahead;");
            landFault(table + " ^a 8 8;", 3);
            landFault(table + " ^a 8 8;ask a 2;", 3);
            landFault(table + " ^old 8 8 0;", 3);
            landFault("ask a 2;" + table + " ^b 8 8;ask b 2;", 3);
            landFault("ask a 2;" + table + " ^aa 8 8;", 3);
            landFault("ask a 2;" + table + " ^b by c 8 8;", 3);
            T.sentence(TERMS, "by one that is not told ahead of the QUESTION's own.");
            landFault("ask a 2;" + table + " a by ^a 8 8 8 8;", 3);
            landFault("ask a 2;ask b 2;" + table + " a by ^b 8 8 8 8;", 3);
            landFault("ask a 2;ask b 2;ask c 2;" + table + " b by ^c 8 8 8 8;", 3);
            landFault("ask a 2;" + table + " a by ^b 8 8 8 8;ask b 2;", 3);
            landFault("ask a 2;" + table + " a by ^flag 8 8 8 8;", 3);
            String six = "ask a 2;ask b 2;ask c 2;ask d 2;ask e 2;ask f 2;";
            landFault(six + table + " f by ^f 8 8 8 8;", 3);
            int way = table.equals("law") ? 1 : 2;
            T.due("the last by the one ahead", land(six + table + " f by e 8 8 8 8;", 6).question(5, way), 4);
            T.due("the last by the first", land(six + table + " f by a 8 8 8 8;", 6).question(5, way), 0);
            T.due("the second by the first", land(six + table + " b by a 8 8 8 8;", 6).question(1, way), 0);
        }
    }

    private static void numbersThatCannotBe() {
        T.sentence(TERMS, "with 2 to 4 ANSWERS (0, 1 ..)");
        for (int n = 2; n <= 4; n++) {
            T.due(n + " ANSWERS", land("ask a " + n + ";", 1).question(0, 0), n);
        }
        for (String n : new String[] {"0", "1", "5", "16", "9999"}) {
            landFault("ask a ^" + n + ";", 4);
        }
        T.sentence(TERMS, "DOORS, at most 16, numbered as they stand: X, Y (0 to 99).");
        T.due("the corners", land("door 0 0;door 99 99;", 0).way(0, 1), 198);
        landFault("door ^100 0;", 4);
        landFault("door 99 ^100;", 4);
        landFault("door 0 0;door ^9999 9999;", 4);
        T.sentence(TERMS, "WALK (1 to 99; 10 without): minutes for ten STEPS.");
        T.due("1", land("walk 1;", 0).told(4), 1);
        T.due("99", land("walk 99;", 0).told(4), 99);
        T.due("without", land("cards 1 1;", 0).told(4), 10);
        landFault("walk ^0;", 4);
        landFault("walk ^100;", 4);
        landFault("walk ^0000;", 4);
        T.sentence(TERMS, "CARDS (0 to 16; 14 and 2 without)");
        KitchenSheets x = land("cards 0 16;", 0);
        T.due("0 and 16", x.told(5) * 100 + x.told(6), 16);
        x = land("cards 16 0;", 0);
        T.due("16 and 0", x.told(5) * 100 + x.told(6), 1600);
        x = land("walk 1;", 0);
        T.due("without", x.told(5) * 100 + x.told(6), 1402);
        landFault("cards ^17 0;", 4);
        landFault("cards 16 ^17;", 4);
        T.sentence(TERMS, "rows of WEIGHTS (0 to 16)");
        x = land("ask a 2;law a 16 0;mind a 0 16;", 1);
        T.due("0 and 16", x.weight(0, false, 0, 0) * 10000 + x.weight(0, false, 0, 1) * 1000
            + x.weight(0, true, 0, 0) * 100 + x.weight(0, true, 0, 1), 160016);
        for (String table : new String[] {"law", "mind"}) {
            landFault("ask a 3;" + table + " a ^17 0 0;", 4);
            landFault("ask a 3;" + table + " a 0 ^17 0;", 4);
            landFault("ask a 3;" + table + " a 0 0 ^17;", 4);
            landFault("ask a 2;ask b 2;" + table + " b by a 8 8 ^9999 8;", 4);
        }
    }

    private static void toldAlready() {
        T.sentence(TERMS, "5 a QUESTION's law, mind told already (at its NAME);");
        landFault("ask a 2;law a 8 8;law ^a 8 8;", 5);
        landFault("ask a 2;mind a 8 8;mind ^a 8 8;", 5);
        landFault("ask a 2;ask b 2;law b by a 8 8 8 8;mind b 8 8;law a 8 8;law ^b ~", 5);
        landFault("ask a 2;law a 8 8;law ^a by b ~", 5);
        land("ask a 2;law a 8 8;mind a 8 8;ask b 2;mind b 8 8;law b 8 8;", 2);
        T.sentence(TERMS, "walk, cards told already (at that WORD).");
        landFault("walk 9;^walk 9;", 5);
        landFault("walk 9;cards 1 1;ask a 2;^walk ~", 5);
        landFault("cards 1 1;^cards 1 1;", 5);
        landFault("cards 14 2;walk 10;^cards", 5);
        KitchenSheets x = land("walk 9;cards 1 1;", 0);
        T.due("of the next LAND they are not told yet", Asked.land(x, "walk 8;cards 2 2;ask a 2;law a 8 8;mind a 8 8;"), 1);
        T.due("nor is the law", Asked.land(x, "ask a 2;law a 8 8;mind a 8 8;"), 1);
        T.due("without", x.told(4) * 10000 + x.told(5) * 100 + x.told(6), 101402);
        Asked.land(x, "walk 7;cards 3 3;ask a 2;law a 8 8;mind a 8 8;~");
        T.due("nor behind one with a FAULT", Asked.land(x, "walk 7;cards 3 3;ask a 2;law a 8 8;mind a 8 8;"), 1);
    }

    private static void tooMany() {
        T.sentence(TERMS, "QUESTIONS, at most 6, numbered as they stand");
        String six = "ask a 2;ask b 3;ask c 4;ask d 2;ask e 3;ask f 4;";
        KitchenSheets x = land(six, 6);
        for (int q = 0; q < 6; q++) {
            T.due("ANSWERS of " + q, x.question(q, 0), 2 + q % 3);
        }
        T.sentence(TERMS, "6 a seventh QUESTION (at ask)");
        landFault(six + "^ask g 2;", 6);
        landFault(six + "door 1 1;^ask", 6);
        landFault(six + "^ask ~", 6);
        T.due("a law may stand behind six", land(six + "law f 4 4 4 4;", 6).told(0), 6);
        T.sentence(TERMS, "a 17th DOOR (at door);");
        String sixteen = Asked.many("door 1 2;", 15) + "door 3 5;";
        T.due("sixteen", land(sixteen, 0).told(1), 16);
        T.due("the sixteenth", land(sixteen, 0).way(0, 15), 5);
        landFault(sixteen + "^door 1 1;", 6);
        landFault(sixteen + "walk 9;^door", 6);
        landFault(sixteen + "^door ~", 6);
        T.due("other PARTS may stand behind sixteen", land(sixteen + "walk 9;ask a 2;", 1).told(1), 16);
    }

    private static void weightsTooMany() {
        for (String table : new String[] {"law", "mind"}) {
            T.sentence(TERMS, "a WEIGHT one too many (at it).");
            landFault("ask a 2;" + table + " a 8 8 ^0;", 6);
            landFault("ask a 2;" + table + " a 8 8 ^16;", 6);
            landFault("ask a 2;" + table + " a 8 8 ^8 8;", 6);
            landFault("ask a 4;" + table + " a 4 4 4 4 ^0", 6);
            landFault("ask a 2;ask b 2;" + table + " b by a 8 8 8 8 ^8 8;", 6);
            landFault("ask a 3;ask b 2;" + table + " b by a 8 8 8 8 8 8 ^8 8;", 6);
            landFault("ask a 2;ask b 3;" + table + " b by a 8 8 0 8 8 0 ^8 8 0;", 6);
            landFault("ask a 4;ask b 4;" + table + " b by a 4 4 4 4 4 4 4 4 4 4 4 4 4 4 4 4 ^0;", 6);
        }
    }

    private static void weightsTooFew() {
        for (String table : new String[] {"law", "mind"}) {
            T.sentence(TERMS, "7 too few WEIGHTS (at the ; ).");
            landFault("ask a 2;" + table + " a 16^;", 7);
            landFault("ask a 2;" + table + " a 0 ^;", 7);
            landFault("ask a 4;" + table + " a 4 4 4^;", 7);
            landFault("ask a 2;ask b 2;" + table + " b by a 8^;", 7);
            landFault("ask a 2;ask b 2;" + table + " b by a 8 8^;", 7);
            landFault("ask a 2;ask b 2;" + table + " b by a 8 8 16 ^;", 7);
            landFault("ask a 3;ask b 2;" + table + " b by a 8 8 8 8^;", 7);
            landFault("ask a 4;ask b 4;" + table + " b by a 4 4 4 4 4 4 4 4 4 4 4 4 4 4 4^;", 7);
        }
    }

    private static void rowsNotSixteen() {
        for (String table : new String[] {"law", "mind"}) {
            T.sentence(TERMS, "8 a row that is not 16 together (at its last WEIGHT).");
            landFault("ask a 2;" + table + " a 8 ^7;", 8);
            landFault("ask a 2;" + table + " a 8 ^9;", 8);
            landFault("ask a 2;" + table + " a 0 ^0;", 8);
            landFault("ask a 2;" + table + " a 16 ^16;", 8);
            landFault("ask a 3;" + table + " a 16 16 ^16;", 8);
            landFault("ask a 4;" + table + " a 4 4 4 ^3;", 8);
            landFault("ask a 2;ask b 2;" + table + " b by a 8 ^7 8 9;", 8);
            landFault("ask a 2;ask b 2;" + table + " b by a 8 8 8 ^9;", 8);
            landFault("ask a 4;ask b 3;" + table + " b by a 0 0 16 0 16 0 16 0 0 1 1 ^15;", 8);
        }
    }

    private static void leastKind() {
        T.sentence(TERMS, "FAULTS, the first along the text (of one TOKEN the least kind)");
        landFault("ask ^~ 2;", 1);
        landFault("ask ^A 2;", 1);
        landFault("ask a ^12345;", 1);
        landFault("ask a 2 ^12345;", 1);
        landFault("ask a 2;law a 8 8 ^00000;", 1);
        landFault("ask a 2;law a 8 ^00008;", 1);
        landFault("ask a 2;law a 8 ^~", 1);
        landFault("ask a 2;law a ^~", 1);
        landFault("ask a 2;law a by ^~", 1);
        landFault("ask a 2;law a ^;", 2);
        landFault("ask a 2;ask b 2;mind b by a ^;", 2);
        landFault("ask a 2;law a 8 8 ^17;", 4);
        landFault("ask a 2;law a 8 ^17;", 4);
        landFault("ask a 2;law a 0 ^9999;", 4);
        landFault("ask a 2;ask b 2;ask c 2;ask d 2;ask e 2;ask f 2;^~sk g 2;", 1);
    }

    private static void firstAlong() {
        T.sentence(TERMS, "FAULTS, the first along the text (of one TOKEN the least kind)");
        landFault("ask a ^1 ~", 4);
        landFault("ask a 2;ask ^a 5;", 3);
        landFault("ask a ^5 5", 4);
        landFault("ask a 2;law ^b by ~", 3);
        landFault("ask a 2;law a by ^a 17;", 3);
        landFault("ask a 2;law a 8 ^7 17;", 8);
        landFault("ask a 2;law a ^17", 4);
        landFault("ask a 2;ask b 2;law b by a 8 8 8^;ask a 2;", 7);
        landFault("door ^100 100;", 4);
        landFault("cards 0 ^17;~", 4);
        landFault("walk ^0~", 4);
        landFault("ask a 2^~", 1);
    }

    private static void landsTaken() {
        T.sentence(TERMS, "A LAND that is taken is there in place of that ahead; there are no SHEETS then.");
        KitchenSheets x = old();
        T.due("the same text once more", Asked.land(x, "ask old 3;door 7 7;walk 33;cards 5 6;"), 1);
        T.due("no SHEETS then", x.told(2), 0);
        T.refused(x, "no SHEET 0", x.look(0, 0), 1);
        T.due("the first one is 0 again", Asked.sheet(x, 0, 0, 1, 2, 0), 0);
        T.due("nothing", x.land(0), 0);
        T.due("no SHEETS, no DOORS", x.told(1) * 10 + x.told(2), 0);
        T.due("WALK and CARDS as without", x.told(4) * 10000 + x.told(5) * 100 + x.told(6), 101402);
        T.refused(x, "no QUESTIONS", x.question(0, 0), 1);
        T.due("the RULES are no part of it", x.told(3), 1);
        x = old();
        Asked.land(x, "ask b 2;ask c 2;law c by b 0 16 16 0;mind c by b 1 15 15 1;");
        Asked.land(x, "ask b 2;ask c 2;");
        T.refused(x, "its law is gone", x.question(1, 1), 6);
        T.refused(x, "its mind too", x.question(1, 2), 6);
        T.due("shared out anew", x.weight(1, false, 0, 0) * 100 + x.weight(1, true, 0, 0), 808);
        T.refused(x, "one row", x.weight(1, false, 1, 0), 1);
    }

    private static void weightsWithout() {
        T.sentence(TERMS, "Without it: one row, of 16 shared out, the first ones one more.");
        int[][] due = {{8, 8}, {6, 5, 5}, {4, 4, 4, 4}};
        for (int n = 2; n <= 4; n++) {
            String asks = "ask b 3;ask a " + n + ";";
            String sure = Asked.many(" 0", n - 1) + " 16";
            String[] lands = {asks, asks + "law a" + sure + ";", asks + "mind a by b" + Asked.many(sure, 3) + ";"};
            for (int which = 0; which < 3; which++) {
                KitchenSheets x = land(lands[which], 2);
                for (int a = 0; a < n; a++) {
                    int told = a == n - 1 ? 16 : 0;
                    T.due("law of " + a, x.weight(1, false, 0, a), which == 1 ? told : due[n - 2][a]);
                    T.due("mind of " + a, x.weight(1, true, 0, a), which == 2 ? told : due[n - 2][a]);
                }
                T.refused(x, "one row of it", x.weight(1, false, 1, 0), 1);
                T.due("rows of the mind", x.weight(1, true, 2, n - 1), which == 2 ? 16 : -1);
            }
        }
        T.sentence(TERMS, "one row, or, by an earlier QUESTION, one for each ANSWER of that.");
        for (int n = 2; n <= 4; n++) {
            KitchenSheets x = land("ask a " + n + ";ask b 2;law b by a" + Asked.many(" 1 15", n - 1) + " 3 13;", 2);
            T.due("the last row", x.weight(1, false, n - 1, 0), 3);
            T.due("the one ahead", x.weight(1, false, n - 2, 0), 1);
            T.refused(x, "a row more", x.weight(1, false, n, 0), 1);
        }
    }

    private static void fullLand() {
        T.about("all that a LAND may have, in 700 bytes");
        StringBuilder s = new StringBuilder();
        for (char c = 'a'; c <= 'f'; c++) {
            s.append("ask ").append(c).append(" 4;");
        }
        for (char c = 'b'; c <= 'f'; c++) {
            char by = (char) (c - 1);
            s.append("law ").append(c).append(" by ").append(by).append(" 16 0 0 0 0 16 0 0 0 0 16 0 0 0 0 16;");
            s.append("mind ").append(c).append(" by ").append(by).append(" 0 0 0 16 0 0 16 0 0 16 0 0 16 0 0 0;");
        }
        s.append("law a 16 0 0 0;walk 1;cards 16 0;");
        while (s.length() < 700 - 16 * 9) {
            s.append(s.length() % 2 == 0 ? ' ' : '\n');
        }
        s.append(Asked.many("door 1 2;", 15)).append("door 3 3;");
        T.due("700 bytes", s.length(), 700);
        KitchenSheets x = land(s.toString(), 6);
        T.due("DOORS", x.told(1), 16);
        T.due("the last DOOR", x.way(14, 15), 1);
        for (int i = 16; i < 96; i++) {
            int row = i / 4 % 4;
            T.due("law " + i, x.weight(i / 16, false, row, i % 4), row == i % 4 ? 16 : 0);
            T.due("mind " + i, x.weight(i / 16, true, row, i % 4), row == 3 - i % 4 ? 16 : 0);
        }
        T.fraction(x, "one row alone", x.twins(), 1, 1);
        s.setCharAt(699, '8');
        x = old();
        T.refused(x, "without the last ;", Asked.land(x, s.toString()), 9);
        T.due("kind", x.fault(0), 2);
        T.due("place", x.fault(1), 700);
    }

    // ---- RULES

    private static void rulesTape() {
        T.sentence(RULES, "RULES are a TEXT of at most 300 bytes");
        rules(Asked.many(" ", 289) + "flag amiss;", 1);
        ruleFault(Asked.many(" ", 290) + "flag amiss^", 2);
        ruleFault(Asked.many(" ", 299) + "^~", 1);
        T.sentence("Promise 11", "Likewise the RULES: how many (1: above 300, too; 9).");
        KitchenSheets x = old();
        T.refused(x, "rules of the empty tape", x.rules(1), 1);
        Asked.feed(x, Asked.many(" ", 289) + "flag amiss;" + "          flag amiss;");
        T.refused(x, "above 300", x.rules(301), 1);
        T.refused(x, "all that the tape has", x.rules(320), 1);
        T.refused(x, "more than the tape has", x.rules(321), 1);
        T.refused(x, "below 0", x.rules(-1), 1);
        T.refused(x, "far below 0", x.rules(Integer.MIN_VALUE), 1);
        T.refused(x, "far above", x.rules(Integer.MAX_VALUE), 1);
        T.due("the RULES stay", x.flagged(0), 1);
        T.due("the tape stays; 300 of it", x.rules(300), 1);
        T.due("and is empty then", x.feed(0x20202020, 0x20202020, 0x20202020, 0x20202020, 0x20202020), 20);
        T.due("all of it", x.rules(20), 0);
        T.due("none", x.rules(0), 0);
        Asked.feed(x, "flag amiss;");
        T.refused(x, "one more than the tape has", x.rules(21), 1);
        T.due("the first bytes of it", x.rules(11), 1);
        T.due("and it is empty then", x.feed(0, 0, 0, 0, 0), 20);
    }

    private static void rulesParts() {
        T.sentence(RULES,
            "RULE: flag TERM {or TERM} ; TERM: TEST {and TEST}. TEST: not TEST, or ( TERM {or TERM} ), or same"
            + " NUMBER, or short NUMBER, or late NUMBER, or rare NUMBER, or made NUMBER, or card NUMBER, or amiss.");
        for (String token : NO_RULE) {
            ruleFault("^" + token, 2);
            ruleFault("flag amiss; ^" + token + " 2;", 2);
        }
        String[] testAhead = {"flag", "flag not", "flag (", "flag amiss or", "flag amiss and", "flag (amiss or", "flag not (not"};
        for (String ahead : testAhead) {
            cannotStand(false, ahead, NO_TEST, " 2;");
        }
        String[] behind = {"flag amiss", "flag same 1", "flag not card 1", "flag (amiss)", "flag amiss or late 1"};
        for (String ahead : behind) {
            cannotStand(false, ahead, NO_MORE, " 2;");
            ruleFault(ahead + " ^);", 2);
        }
        cannotStand(false, "flag (amiss", NO_MORE, ");");
        ruleFault("flag (amiss ^;", 2);
        ruleFault("flag (amiss or (card 1) ^;", 2);
        for (String word : new String[] {"same", "short", "late", "rare", "made", "card"}) {
            cannotStand(false, "flag " + word, new String[] {"a", "not", "or", "amiss", "same", ";", "(", ")"}, ";");
            rules("flag " + word + " 0;flag " + word + "2;", 2);
        }
        rules("", 0);
        rules(" \n", 0);
        rules("\nflag\namiss\n;\n", 1);
        rules("flag(amiss)or(amiss)and(not(amiss));", 1);
    }

    private static void rulesNumbers() {
        T.sentence(RULES, "4 a NUMBER that can't be (of made, card).");
        ruleFault("flag made ^17;", 4);
        ruleFault("flag made ^9999;", 4);
        ruleFault("flag card ^3;", 4);
        ruleFault("flag card ^9999;", 4);
        ruleFault("flag amiss;flag amiss and (card 2 or not made ^17);", 4);
        rules("flag made 0 or made 16;flag card 0 or card 2;", 2);
        rules("flag same 0 or same 9999;flag short 0 or short 9999;flag late 0 or late 9999;flag rare 0 or rare 9999;", 4);
        T.sentence(TERMS, "NUMBERS (1 to 4 digits)");
        for (String word : new String[] {"same", "short", "late", "rare", "made", "card"}) {
            ruleFault("flag " + word + " ^10000;", 1);
        }
    }

    private static void rulesWithin() {
        T.sentence(RULES, "5 a TEST within eight of not and brackets (at its first TOKEN).");
        for (int nots = 0; nots <= 7; nots++) {
            int brackets = 7 - nots;
            rules("flag " + Asked.many("not ", nots) + Asked.many("(", brackets) + "amiss" + Asked.many(")", brackets) + ";", 1);
            rules("flag " + Asked.many("(", brackets) + Asked.many("not ", nots) + "same 1" + Asked.many(")", brackets) + ";", 1);
        }
        for (int nots = 0; nots <= 8; nots++) {
            int brackets = 8 - nots;
            String open = Asked.many("(", brackets);
            String close = Asked.many(")", brackets) + ";";
            ruleFault("flag " + Asked.many("not ", nots) + open + "^amiss" + close, 5);
            ruleFault("flag " + open + Asked.many("not ", nots) + "^same 1" + close, 5);
        }
        String eight = "flag amiss and not (not (not (not (";
        for (String test : new String[] {"same 1", "short 1", "late 1", "rare 1", "made 1", "card 1", "amiss", "not amiss", "(amiss)",
            "not", "(", "made 17", "card", "same ~"}) {
            ruleFault(eight + "^" + test, 5);
        }
        String nots = "flag " + Asked.many("not ", 8);
        ruleFault(nots + "^not amiss;", 5);
        ruleFault(nots + "^not not not not;", 5);
        ruleFault(nots + "^not", 5);
        ruleFault(nots + "^(amiss);", 5);
        ruleFault("flag not not not (not not not not ^not amiss);", 5);
        ruleFault("flag (((((((amiss and amiss or amiss and not ^amiss)))))));", 5);
        ruleFault("flag (((((((amiss) or not (^amiss)))))));", 5);
        rules("flag (((((((amiss) or not amiss))))));", 1);
        rules("flag not(not(not(not amiss)))and not(not(not(not amiss)))or not(not(not(not amiss)));", 1);
        rules("flag not not not not not not not amiss;flag not not not not not not not amiss;", 2);
    }

    private static void rulesTooMany() {
        T.sentence(RULES, "{RULE}, at most 4.");
        rules("flag amiss;flag amiss;flag amiss;flag late 1;", 4);
        T.sentence(RULES, "6 a fifth RULE (at flag)");
        String four = "flag amiss;flag amiss;flag amiss;flag amiss;";
        ruleFault(four + "^flag amiss;", 6);
        ruleFault(four + " \n^flag", 6);
        ruleFault(four + "^flag ~", 6);
        ruleFault(four + "^amiss;", 2);
        T.sentence(RULES, "a 41st TEST (at its WORD; not and brackets are none).");
        String most = "flag " + Asked.many("card1or ", 36) + "card1;";
        T.due("no more go into 300 bytes", most.length(), 299);
        rules(most, 1);
        rules("flag " + Asked.many("(not card1)or", 21) + " card1;", 1);
    }

    private static void rulesLeastKind() {
        T.sentence(RULES, "FAULTS of RULES: 1, 2 as above.");
        ruleFault("^Flag amiss;", 1);
        ruleFault("flag ^Amiss;", 1);
        ruleFault("flag amiss^,", 1);
        ruleFault("flag same ^-1;", 1);
        ruleFault("flag amiss ^12345;", 1);
        String eight = "flag not not not not not not not not ";
        ruleFault(eight + "^~", 1);
        ruleFault(eight + "^12345", 1);
        ruleFault(eight + "^;", 2);
        ruleFault(eight + "^or amiss;", 2);
        ruleFault(eight + "^2;", 2);
        ruleFault(eight + "^", 2);
        ruleFault("flag made ^17 17;", 4);
        ruleFault("flag amiss ^flag amiss;", 2);
        ruleFault("flag amiss;flag amiss;flag amiss;flag amiss;^~", 1);
    }

    private static void rulesTaken() {
        T.sentence("Promise 11", "Likewise the RULES");
        KitchenSheets x = old();
        T.due("one is flagged by it", x.flagged(0), 1);
        T.due("others in place of it", Asked.rules(x, "flag late 20;flag late 9;"), 2);
        T.due("the first", x.flagged(0), 0);
        T.due("the second", x.flagged(1), 1);
        T.due("SHEETS are still there", x.told(2), 1);
        T.refused(x, "a fault", Asked.rules(x, "flag amiss;flag late 5;flag late 4;flag"), 9);
        T.due("they stay", x.told(3), 2);
        T.due("the first", x.flagged(0), 0);
        T.due("the second", x.flagged(1), 1);
        T.due("none in place of them", x.rules(0), 0);
        T.refused(x, "none is there", x.flagged(0), 1);
    }
}
