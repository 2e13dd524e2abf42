import java.io.IOException;
import java.nio.charset.StandardCharsets;
import java.nio.file.Files;
import java.nio.file.Path;
import java.nio.file.Paths;
import java.util.Arrays;

/** What the project's tests share: calls with the answer that is due, and texts that are fed as bytes. */
final class Asked {
    private static final Path DOCUMENT = Paths.get("../shared/DOC.md");

    private int asked;
    private int wrong;
    private String about = "";
    private String document;

    void about(String promise) {
        about = promise;
    }

    /** What follows is asked for these words of the document, which must stand in it just so. */
    void sentence(String where, String words) {
        about = where + ", \"" + words + "\"";
        if (document == null) {
            document = oneLine(readDocument());
        }
        if (!document.isEmpty()) {
            due("whether the document says so", document.contains(oneLine(words)), true);
        }
    }

    // Away from the document's place the tests go on without it.
    private static String readDocument() {
        try {
            return Files.isReadable(DOCUMENT) ? new String(Files.readAllBytes(DOCUMENT), StandardCharsets.UTF_8) : "";
        } catch (IOException e) {
            return "";
        }
    }

    private static String oneLine(String text) {
        return text.replaceAll("\\s+", " ").trim();
    }

    void due(String call, long got, long want) {
        asked++;
        if (got != want) {
            wrong++;
            if (wrong <= 40) {
                System.out.println(about + ": " + call + " answered " + got + ", due is " + want);
            }
        }
    }

    void due(String call, boolean got, boolean want) {
        due(call, got ? 1 : 0, want ? 1 : 0);
    }

    /** A call that is refused with a STATUS. */
    void refused(KitchenSheets x, String call, long got, int status) {
        due(call, got, -1);
        due(call + " status", x.status(), status);
    }

    void refused(KitchenSheets x, String call, boolean got, int status) {
        due(call, got, false);
        due(call + " status", x.status(), status);
    }

    /** A call by its name that is refused with a STATUS: it gives NONE, or false. */
    void refusedCall(KitchenSheets x, int status, String name, long... a) {
        String call = name + Arrays.toString(a);
        due(call, Calls.call(x, name, a), Calls.FALSE_IF_REFUSED.contains(name) ? 0 : -1);
        due(call + " status", x.status(), status);
    }

    /**
     * Of a call's numbers the one that stands at a place: it may be from least to most, no less and no more.
     * Those two must not have STATUS 1; what else they have is asked elsewhere.
     */
    void span(KitchenSheets x, int least, int most, int at, String name, long... numbers) {
        long[] a = numbers.clone();
        for (int wrong : new int[] {least - 1, most + 1, Integer.MIN_VALUE, Integer.MAX_VALUE}) {
            a[at] = wrong;
            refusedCall(x, 1, name, a);
        }
        for (int right : new int[] {least, most}) {
            a[at] = right;
            Calls.call(x, name, a);
            due(name + Arrays.toString(a) + " is taken", x.status() != 1, true);
        }
    }

    void fraction(KitchenSheets x, String call, boolean got, long top, long bottom) {
        due(call, got, true);
        due(call + " status", x.status(), 0);
        due(call + " top", x.top(), top);
        due(call + " bottom", x.bottom(), bottom);
    }

    int wrong() {
        return wrong;
    }

    void end(String test) {
        System.out.println(test + ": " + asked + " answers asked, " + wrong + " not as due");
        if (wrong != 0) {
            System.exit(1);
        }
    }

    static final String KITCHEN = "ask age 2;ask vote 2;law age 8 8;law vote by age 12 4 4 12;"
        + "mind vote by age 16 0 0 16;door 0 0;door 10 0;door 0 30;walk 5;cards 12 4;";

    /** SHEETS 0 to 3 are of ASKER 0, the last one of ASKER 1; by the LAW they weigh 96, 96, 32, 96, 32, by the MIND 128 or 0. */
    static KitchenSheets kitchen() {
        KitchenSheets x = new KitchenSheets();
        land(x, KITCHEN);
        sheet(x, 0, 0, 600, 620, 0, 0);
        sheet(x, 0, 1, 630, 650, 1, 1);
        sheet(x, 0, 2, 640, 660, 0, 1);
        sheet(x, 0, 0, 690, 700, 0, 0);
        sheet(x, 1, 1, 600, 610, 1, 0);
        return x;
    }

    /** A text so many times. */
    static String many(String piece, int times) {
        StringBuilder s = new StringBuilder();
        for (int i = 0; i < times; i++) {
            s.append(piece);
        }
        return s.toString();
    }

    static int feed(KitchenSheets x, String text) {
        byte[] bytes = text.getBytes(StandardCharsets.ISO_8859_1);
        int fed = 0;
        for (int at = 0; at < bytes.length; at += 20) {
            int[] five = new int[5];
            for (int i = 0; i < 20; i++) {
                int b = at + i < bytes.length ? bytes[at + i] & 255 : 0;
                five[i / 4] = five[i / 4] << 8 | b;
            }
            fed = x.feed(five[0], five[1], five[2], five[3], five[4]);
        }
        return fed;
    }

    static int land(KitchenSheets x, String text) {
        feed(x, text);
        return x.land(text.length());
    }

    static int rules(KitchenSheets x, String text) {
        feed(x, text);
        return x.rules(text.length());
    }

    /** A SHEET by TRAY 3, which is laid anew for it. */
    static int sheet(KitchenSheets x, long... numbers) {
        x.tray(3, 3, numbers.length);
        for (int i = 0; i < numbers.length; i++) {
            x.write(3, i, numbers[i]);
        }
        return x.sheet(3);
    }
}
