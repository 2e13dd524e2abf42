import java.util.Random;

/**
 * Wild calls: numbers from everywhere, in all states. No call may throw, and a refused call must change nothing:
 * beside each object stands another one that gets only the calls that were not refused, and in the end both tell the same.
 */
public final class WildCallsTest {
    private static final String[] CALLS = {"tray", "write", "read", "pour", "feed", "land", "rules", "fault", "told",
        "question", "weight", "sheet", "look", "alter", "card", "sheetWeight", "odds", "half", "way", "walked", "amiss",
        "group", "twins", "strange", "goes", "number", "bounds", "unlike", "doubtful", "flagged", "hides", "hidden",
        "worth", "deters", "checked", "found", "world", "score", "mark", "back"};
    private static final long[] EDGES = {Integer.MIN_VALUE, Integer.MIN_VALUE + 1, -700, -2, -1, 0, 1, 2, 3, 4, 5, 6, 7, 8,
        15, 16, 17, 20, 59, 60, 61, 99, 100, 300, 301, 700, 701, 999, 1000, 1439, 1440, 9999, 10000, 65535, 65536,
        99999999, 100000000, Integer.MAX_VALUE - 1, Integer.MAX_VALUE};
    private static final String[] LANDS = {"", "door 0 0;", "ask a 2;ask b 4;law b by a 16 0 0 0 4 4 4 4;door 1 1;door 9 9;",
        "ask a 4;ask b 4;ask c 4;ask d 4;ask e 4;ask f 4;mind f by a 16 0 0 0 0 16 0 0 0 0 16 0 0 0 0 16;"
            + "cards 16 0;door 99 99;door 0 0;walk 99;"};
    private static final String[] RULES = {"", "flag amiss;", "flag same 1;flag made 8 or rare 99;flag not card 1;flag same 0;",
        "flag not not not not not not not (same 1 or amiss)"};

    private final Random random;
    private final KitchenSheets x = new KitchenSheets();
    private final KitchenSheets quiet = new KitchenSheets();

    private WildCallsTest(long seed) {
        random = new Random(seed);
    }

    public static void main(String[] args) {
        Asked asked = new Asked();
        for (int seed = 1; seed <= 3000; seed++) {
            asked.about("wild run " + seed);
            new WildCallsTest(seed).run(asked);
        }
        asked.end("WildCallsTest");
    }

    private void run(Asked asked) {
        begin();
        for (int i = 0; i < 200; i++) {
            if (random.nextInt(25) == 0) {
                begin();
            }
            one(CALLS[random.nextInt(CALLS.length)]);
        }
        compare(asked);
        for (int i = 0; i < 3; i++) {
            asked.due("back", x.back(), quiet.back());
            compare(asked);
        }
    }

    private void begin() {
        String land = LANDS[random.nextInt(LANDS.length)];
        String rules = RULES[random.nextInt(RULES.length)];
        for (KitchenSheets k : new KitchenSheets[] {x, quiet}) {
            k.rules(0);
            Asked.land(k, land);
            Asked.rules(k, rules);
        }
        for (int i = random.nextInt(5); i > 0; i--) {
            long[] sheet = new long[10];
            sheet[0] = random.nextInt(2);
            sheet[2] = random.nextInt(100);
            sheet[3] = 100 + random.nextInt(50);
            for (int q = 4; q < 10; q++) {
                sheet[q] = random.nextInt(2);
            }
            Asked.sheet(x, sheet);
            Asked.sheet(quiet, sheet);
        }
    }

    private void one(String name) {
        long[] a = new long[5];
        for (int i = 0; i < 5; i++) {
            a[i] = random.nextInt(3) == 0 ? EDGES[random.nextInt(EDGES.length)] : random.nextInt(5);
        }
        if (name.equals("write")) {
            a[2] = random.nextLong();
        }
        int before = x.status();
        Calls.call(x, name, a);
        boolean hasStatus = !name.equals("feed") && !name.equals("fault");
        if (!hasStatus && x.status() != before) {
            throw new IllegalStateException(name + " changed the status");
        }
        if (!hasStatus || x.status() == 0 || x.status() == 9) {
            Calls.call(quiet, name, a);
        }
    }

    private void compare(Asked asked) {
        same(asked, "top");
        same(asked, "bottom");
        for (int i = 0; i < 7; i++) {
            same(asked, "told", i);
            same(asked, "hidden", i);
            same(asked, "flagged", i);
            same(asked, "fault", i);
            for (int what = 0; what < 3; what++) {
                same(asked, "question", i, what);
            }
            for (int at = 0; at < 16; at++) {
                same(asked, "weight", i, 0, at / 4, at % 4);
                same(asked, "weight", i, 1, at / 4, at % 4);
            }
        }
        same(asked, "found");
        for (int i = 0; i < 16; i++) {
            same(asked, "way", 0, i);
            for (int what = 0; what < 13; what++) {
                same(asked, "look", i, what);
            }
        }
        for (int tray = 0; tray < 4; tray++) {
            for (int place = 0; place < 60; place++) {
                same(asked, "read", tray, place);
            }
            same(asked, "pour", tray, 0, tray, 0, 0);
        }
    }

    private void same(Asked asked, String name, long... a) {
        String call = name + java.util.Arrays.toString(a);
        asked.due(call, Calls.call(x, name, a), Calls.call(quiet, name, a));
        if (!name.equals("top") && !name.equals("bottom") && !name.equals("fault")) {
            asked.due(call + " status", x.status(), quiet.status());
        }
    }
}
