import java.nio.charset.StandardCharsets;

/** What the project's tests share: calls with the answer that is due, and texts that are fed as bytes. */
final class Asked {
    private int asked;
    private int wrong;
    private String about = "";

    void about(String promise) {
        about = promise;
    }

    void due(String call, long got, long want) {
        asked++;
        if (got != want) {
            wrong++;
            if (wrong <= 40) {
                System.out.println(about + ": " + call + " answered " + got + ", due is " + want);
            }
        }
    }

    void due(String call, boolean got, boolean want) {
        due(call, got ? 1 : 0, want ? 1 : 0);
    }

    /** A call that is refused with a STATUS. */
    void refused(KitchenSheets x, String call, long got, int status) {
        due(call, got, -1);
        due(call + " status", x.status(), status);
    }

    void refused(KitchenSheets x, String call, boolean got, int status) {
        due(call, got, false);
        due(call + " status", x.status(), status);
    }

    void fraction(KitchenSheets x, String call, boolean got, long top, long bottom) {
        due(call, got, true);
        due(call + " status", x.status(), 0);
        due(call + " top", x.top(), top);
        due(call + " bottom", x.bottom(), bottom);
    }

    int wrong() {
        return wrong;
    }

    void end(String test) {
        System.out.println(test + ": " + asked + " answers asked, " + wrong + " not as due");
        if (wrong != 0) {
            System.exit(1);
        }
    }

    static int feed(KitchenSheets x, String text) {
        byte[] bytes = text.getBytes(StandardCharsets.ISO_8859_1);
        int fed = 0;
        for (int at = 0; at < bytes.length; at += 20) {
            int[] five = new int[5];
            for (int i = 0; i < 20; i++) {
                int b = at + i < bytes.length ? bytes[at + i] & 255 : 0;
                five[i / 4] = five[i / 4] << 8 | b;
            }
            fed = x.feed(five[0], five[1], five[2], five[3], five[4]);
        }
        return fed;
    }

    static int land(KitchenSheets x, String text) {
        feed(x, text);
        return x.land(text.length());
    }

    static int rules(KitchenSheets x, String text) {
        feed(x, text);
        return x.rules(text.length());
    }

    /** A SHEET by TRAY 3, which is laid anew for it. */
    static int sheet(KitchenSheets x, long... numbers) {
        x.tray(3, 3, numbers.length);
        for (int i = 0; i < numbers.length; i++) {
            x.write(3, i, numbers[i]);
        }
        return x.sheet(3);
    }
}
