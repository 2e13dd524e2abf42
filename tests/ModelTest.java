import java.util.Arrays;
import java.util.Map;
import java.util.Random;
import java.util.TreeMap;

/** Random runs of calls, each answered by the program and by the Model, which must agree in all they tell. */
public final class ModelTest {
    private static final String[] CALLS = {"tray", "write", "read", "pour", "feed", "land", "rules", "fault", "told",
        "question", "weight", "sheet", "look", "alter", "card", "sheetWeight", "odds", "half", "way", "walked", "amiss",
        "group", "twins", "strange", "goes", "number", "bounds", "unlike", "doubtful", "flagged", "hides", "hidden",
        "worth", "deters", "checked", "found", "world", "score", "mark", "back"};

    // How often each call ended with each STATUS, and each reading with each FAULT: what the runs came by.
    private static final Map<String, Integer> SEEN = new TreeMap<>();

    private static final String[] WANTED = {"tray 0 1", "write 0 1 2 3", "read 0 1 2 3", "pour 0 1 2 3 8", "land 0 1 9",
        "rules 0 1 9", "told 0 1", "question 0 1 6", "weight 0 1", "sheet 0 1 2 3 4 5", "look 0 1 6", "alter 0 1",
        "card 0 1", "sheetWeight 0 1", "odds 0 1 6", "half 0 1 6", "way 0 1", "walked 0 1", "amiss 0 1", "group 0 1 6",
        "twins 0", "strange 0 1", "goes 0 1 6", "number 0 1 6", "bounds 0 1", "unlike 0 1", "doubtful 0 1",
        "flagged 0 1", "hides 0 1 6", "hidden 0 1 6", "worth 0 1", "deters 0 1 6", "checked 0 1", "found 0 6",
        "world 0 1", "score 0 1", "mark 0 4", "back 0 6", "landFault 0 1 2 3 4 5 6 7 8", "rulesFault 0 1 2 4 5 6"};

    private final Asked asked;
    private final Random random;
    private final KitchenSheets x = new KitchenSheets();
    private final Model model = new Model();
    private int calls;
    private final StringBuilder run = new StringBuilder();

    private ModelTest(Asked asked, long seed) {
        this.asked = asked;
        this.random = new Random(seed);
        asked.about("model run " + seed);
    }

    public static void main(String[] args) {
        int runs = args.length > 0 ? Integer.parseInt(args[0]) : 600;
        int first = args.length > 1 ? Integer.parseInt(args[1]) : 1;
        Asked asked = new Asked();
        for (int seed = first; seed < first + runs && asked.wrong() == 0; seed++) {
            new ModelTest(asked, seed).run();
        }
        if (runs >= 600) {
            dueSeen(asked);
        }
        asked.end("ModelTest");
    }

    private static void dueSeen(Asked asked) {
        asked.about("what the model runs came by");
        for (String wanted : WANTED) {
            String[] words = wanted.split(" ");
            for (int i = 1; i < words.length; i++) {
                asked.due(words[0] + " " + words[i], SEEN.getOrDefault(words[0] + " " + words[i], 0) >= 5, true);
            }
        }
        if (Boolean.getBoolean("seen")) {
            System.out.println(SEEN);
        }
    }

    private void run() {
        boolean sane = random.nextInt(4) != 0;
        say("told", 4);
        if (random.nextInt(8) != 0) {
            text("land", land(sane ? 0 : 1));
            text("rules", rules(0));
        }
        boolean onlyTexts = random.nextInt(3) == 0;
        while (calls < 500 && asked.wrong() == 0) {
            if (onlyTexts) {
                boolean isLand = random.nextBoolean();
                text(isLand ? "land" : "rules", isLand ? land(1) : rules(1));
            } else {
                step();
            }
        }
        if (asked.wrong() > 0) {
            System.out.println(run);
        }
    }

    private void step() {
        switch (random.nextInt(24)) {
            case 0:
                text("rules", rules(random.nextInt(3)));
                break;
            case 1:
                if (random.nextInt(4) == 0) {
                    text("land", land(random.nextInt(3)));
                }
                break;
            case 2: case 3: case 4: case 5:
                sheet();
                break;
            case 6:
                if (random.nextInt(3) == 0) {
                    say("world", random.nextInt(10000), random.nextInt(9), random.nextInt(9));
                }
                break;
            case 7:
                say(random.nextBoolean() ? "mark" : "back");
                break;
            default:
                one(CALLS[random.nextInt(CALLS.length)]);
        }
    }

    private int upTo(int most) {
        int chance = random.nextInt(30);
        return chance == 0 ? -1 - random.nextInt(3) : chance == 1 ? most + 1 + random.nextInt(3) : random.nextInt(most + 1);
    }

    private void one(String name) {
        int q = Math.max(model.land.questions.size() - 1, 0);
        int n = Math.max(model.sheets.size() - 1, 0);
        int r = Math.max(model.rules.size() - 1, 0);
        switch (name) {
            case "tray": say(name, upTo(3), upTo(3), random.nextInt(3) == 0 ? upTo(60) : upTo(6)); break;
            case "write": say(name, upTo(3), upTo(12), number()); break;
            case "read": say(name, upTo(3), upTo(12)); break;
            case "pour": say(name, upTo(3), upTo(5), upTo(3), upTo(5), upTo(6)); break;
            case "feed":
                if (random.nextInt(6) == 0) {
                    say(name, (int) number(), (int) number(), (int) number(), (int) number(), (int) number());
                }
                break;
            case "land":
                if (random.nextInt(20) == 0) {
                    say(name, upTo(40));
                }
                break;
            case "rules":
                if (random.nextInt(10) == 0) {
                    say(name, random.nextBoolean() ? upTo(40) : upTo(400));
                }
                break;
            case "fault": say(name, upTo(1)); break;
            case "told": say(name, upTo(6)); break;
            case "question": say(name, upTo(q), upTo(2)); break;
            case "weight": say(name, upTo(q), random.nextInt(2), upTo(3), upTo(3)); break;
            case "sheet": say(name, upTo(3)); break;
            case "look": say(name, upTo(n), upTo(7 + q)); break;
            case "alter": say(name, upTo(n), upTo(q), upTo(2)); break;
            case "card": say(name, upTo(n), upTo(2)); break;
            case "sheetWeight": say(name, upTo(n), random.nextInt(2)); break;
            case "odds": say(name, upTo(n), upTo(16)); break;
            case "half": say(name, upTo(n), upTo(q + 1)); break;
            case "way": say(name, upTo(Math.max(model.land.doors.size() - 1, 0)), upTo(Math.max(model.land.doors.size() - 1, 0))); break;
            case "walked": case "amiss": case "unlike": say(name, upTo(3)); break;
            case "group": say(name, upTo(3), upTo(6), upTo(1)); break;
            case "strange": say(name, random.nextInt(4) == 0 ? upTo(99999999) : upTo(1 << random.nextInt(25))); break;
            case "goes": say(name, upTo(3), upTo(q), upTo(q)); break;
            case "number": say(name, upTo(q), upTo(2), upTo((1 << model.sheets.size()) - 1)); break;
            case "bounds": say(name, upTo(q), upTo(2), upTo(n), random.nextInt(2)); break;
            case "doubtful": say(name, upTo(16), upTo(16)); break;
            case "flagged": say(name, upTo(r)); break;
            case "hides": say(name, upTo(r), upTo(n)); break;
            case "hidden": say(name, upTo(5)); break;
            case "worth": say(name, upTo(99), upTo(16), upTo(9999)); break;
            case "deters": say(name, upTo(99), upTo(9999)); break;
            case "checked":
                say(name, random.nextBoolean() ? upTo(60) : upTo(999), upTo(16));
                say("found");
                break;
            case "world":
                if (random.nextInt(10) == 0) {
                    say(name, upTo(9999), upTo(16), upTo(16));
                }
                break;
            case "score": say(name, upTo(r), upTo(2)); break;
            default: say(name);
        }
    }

    private long number() {
        return random.nextInt(3) == 0 ? random.nextLong() >> random.nextInt(64) : random.nextInt(6);
    }

    private void text(String call, String text) {
        int[] five = new int[5];
        if (!model.tape.isEmpty()) {
            say("rules", 0);
        }
        for (int at = 0; at < text.length(); at += 20) {
            for (int i = 0; i < 20; i++) {
                five[i / 4] = five[i / 4] << 8 | (at + i < text.length() ? text.charAt(at + i) : 0);
            }
            say("feed", five[0], five[1], five[2], five[3], five[4]);
        }
        run.append("// ").append(text.replace("\n", "\\n")).append('\n');
        say(call, text.length());
        say("fault", 0);
        say("fault", 1);
    }

    private void sheet() {
        int tray = random.nextInt(4);
        int q = model.land.questions.size();
        say("tray", tray, 1 + random.nextInt(3), 4 + q + (random.nextInt(20) == 0 ? -1 : random.nextInt(2)));
        say("write", tray, 0, random.nextInt(40) == 0 ? upTo(3) : random.nextInt(5) == 0 ? random.nextInt(4) : 1);
        say("write", tray, 1, upTo(Math.max(model.land.doors.size() - 1, 0)));
        int from = random.nextInt(20) == 0 ? 1430 + random.nextInt(12) : random.nextInt(random.nextBoolean() ? 1400 : 200);
        say("write", tray, 2, from);
        say("write", tray, 3, from + (random.nextInt(30) == 0 ? random.nextInt(3) - 1 : 1 + random.nextInt(35)));
        for (int i = 0; i < q; i++) {
            if (random.nextInt(3) != 0) {
                say("write", tray, 4 + i, random.nextInt(40) == 0 ? upTo(3) : random.nextInt(model.land.questions.get(i).many));
            }
        }
        say("sheet", tray);
        if (random.nextInt(3) == 0) {
            say("card", upTo(Math.max(model.sheets.size() - 1, 0)), upTo(2));
        }
    }

    private void say(String name, long... a) {
        if (calls >= 510) {
            return;
        }
        calls++;
        String call = name + Arrays.toString(a);
        run.append(call).append('\n');
        long want = model.call(name, a);
        SEEN.merge(name + " " + model.status, 1, Integer::sum);
        if ((name.equals("land") || name.equals("rules")) && model.status != 1) {
            SEEN.merge(name + "Fault " + model.faultKind, 1, Integer::sum);
        }
        asked.due(call, Calls.call(x, name, a), want);
        asked.due(call + " status", x.status(), model.status);
        asked.due(call + " top", x.top(), model.top.longValueExact());
        asked.due(call + " bottom", x.bottom(), model.bottom.longValueExact());
    }

    // ---- texts, by kind 0: sound, 1: with slips in it, 2: of torn pieces

    private String gap() {
        return random.nextInt(5) == 0 ? "\n" : random.nextInt(12) == 0 ? "  " : " ";
    }

    private String land(int kind) {
        StringBuilder s = new StringBuilder();
        int many = random.nextInt(7);
        int[] sizes = new int[many];
        for (int q = 0; q < many; q++) {
            sizes[q] = random.nextInt(3) == 0 ? 2 + random.nextInt(3) : 2;
            s.append("ask").append(gap()).append((char) ('a' + q)).append(gap()).append(sizes[q]).append(";");
            if (random.nextInt(3) != 0) {
                rows(s, "law", q, sizes);
            }
            if (random.nextInt(3) != 0) {
                rows(s, "mind", q, sizes);
            }
        }
        int doors = random.nextInt(10) == 0 ? random.nextInt(18) : 1 + random.nextInt(5);
        for (int d = 0; d < doors; d++) {
            s.append("door ").append(random.nextInt(30)).append(gap()).append(random.nextInt(30)).append(";");
        }
        if (random.nextBoolean()) {
            s.append(" walk").append(random.nextInt(99) + 1).append(" ;");
        }
        if (random.nextBoolean()) {
            s.append("cards ").append(random.nextInt(17)).append(" ").append(random.nextInt(17)).append(";").append(gap());
        }
        return slip(s, kind, new String[] {"ask ", "law ", "mind ", " by ", "door ", "walk ", "cards ", "a ", "b ", "cc ",
            "abcdefgh ", "abcdefghi ", "2", "16 ", "17 ", "0 ", "8 8", ";", "(", ")", "12345", "0016", "~", "\t", "\n", "A"}, 700);
    }

    private void rows(StringBuilder s, String word, int q, int[] sizes) {
        s.append(word).append(' ').append((char) ('a' + q));
        int rows = 1;
        if (q > 0 && random.nextInt(3) != 0) {
            int by = random.nextInt(q);
            s.append(" by ").append((char) ('a' + by));
            rows = sizes[by];
        }
        for (int r = 0; r < rows; r++) {
            int left = 16;
            for (int i = 0; i < sizes[q]; i++) {
                int w = i == sizes[q] - 1 ? left : random.nextInt(5) == 0 ? left : random.nextInt(left + 1);
                s.append(' ').append(w);
                left -= w;
            }
        }
        s.append(';');
    }

    private String rules(int kind) {
        StringBuilder s = new StringBuilder();
        int many = random.nextInt(5);
        for (int i = 0; i < many; i++) {
            s.append("flag ");
            terms(s, random.nextInt(20) == 0 ? 9 : 3);
            s.append(";").append(random.nextInt(3) == 0 ? "\n" : "");
        }
        return slip(s, kind, new String[] {"flag ", "not ", "(", ")", " or ", " and ", "same ", "short 5", "late 900",
            "rare 70", "made 16", "made 17", "card 2", "card 3", "amiss ", "amisss", "9999 ", "10000", ";", "x", "#", "\u00e9",
            "not not not not not not not ", "((((((("}, 300);
    }

    private void terms(StringBuilder s, int depth) {
        test(s, depth);
        while (random.nextInt(3) == 0) {
            s.append(random.nextBoolean() ? " or " : " and ");
            test(s, depth);
        }
    }

    private void test(StringBuilder s, int depth) {
        int chance = random.nextInt(depth > 5 ? 3 : 9);
        if (depth > 0 && chance == 0) {
            s.append("not ");
            test(s, depth - 1);
        } else if (depth > 0 && chance == 1) {
            s.append("(");
            terms(s, depth - 1);
            s.append(")");
        } else {
            switch (random.nextInt(7)) {
                case 0: s.append("same ").append(random.nextInt(4)); break;
                case 1: s.append("short ").append(random.nextInt(40)); break;
                case 2: s.append("late ").append(random.nextInt(1440)); break;
                case 3: s.append("rare ").append(random.nextInt(1 << 4 * (1 + random.nextInt(3)))); break;
                case 4: s.append("made ").append(random.nextInt(17)); break;
                case 5: s.append("card ").append(random.nextInt(3)); break;
                default: s.append("amiss");
            }
        }
    }

    private String slip(StringBuilder s, int kind, String[] pieces, int most) {
        if (kind == 2) {
            s.setLength(Math.min(s.length(), random.nextInt(60)));
            while (random.nextInt(12) != 0) {
                s.append(pieces[random.nextInt(pieces.length)]);
            }
        }
        for (int i = 0; kind == 1 && i < 1 + random.nextInt(2); i++) {
            int at = random.nextInt(s.length() + 1);
            switch (random.nextInt(4)) {
                case 0:
                    s.delete(at, Math.min(s.length(), at + 1 + random.nextInt(4)));
                    break;
                case 1:
                    s.insert(at, pieces[random.nextInt(pieces.length)]);
                    break;
                case 2: {
                    String[] parts = s.toString().split("(?<=;)");
                    s.insert(random.nextBoolean() ? s.length() : s.indexOf(";", at) + 1, parts[random.nextInt(parts.length)]);
                    break;
                }
                default:
                    while (at < s.length() && !Character.isDigit(s.charAt(at))) {
                        at++;
                    }
                    if (at < s.length()) {
                        s.replace(at, at + 1, "" + random.nextInt(20));
                    }
            }
        }
        if (s.length() > most) {
            s.setLength(most);
        }
        return s.toString();
    }
}
