import java.util.Arrays;
import java.util.List;

/** Each method of the face by its name: a boolean counts 1 or 0. */
final class Calls {
    /** The calls that give false where others give NONE. */
    static final List<String> FALSE_IF_REFUSED = Arrays.asList("tray", "write", "pour", "alter", "card", "odds", "half",
        "twins", "strange", "goes", "number", "bounds");

    private Calls() {
    }

    static long call(KitchenSheets x, String name, long... a) {
        switch (name) {
            case "status": return x.status();
            case "top": return x.top();
            case "bottom": return x.bottom();
            case "tray": return bit(x.tray((int) a[0], (int) a[1], (int) a[2]));
            case "write": return bit(x.write((int) a[0], (int) a[1], a[2]));
            case "read": return x.read((int) a[0], (int) a[1]);
            case "pour": return bit(x.pour((int) a[0], (int) a[1], (int) a[2], (int) a[3], (int) a[4]));
            case "feed": return x.feed((int) a[0], (int) a[1], (int) a[2], (int) a[3], (int) a[4]);
            case "land": return x.land((int) a[0]);
            case "rules": return x.rules((int) a[0]);
            case "fault": return x.fault((int) a[0]);
            case "told": return x.told((int) a[0]);
            case "question": return x.question((int) a[0], (int) a[1]);
            case "weight": return x.weight((int) a[0], a[1] == 1, (int) a[2], (int) a[3]);
            case "sheet": return x.sheet((int) a[0]);
            case "look": return x.look((int) a[0], (int) a[1]);
            case "alter": return bit(x.alter((int) a[0], (int) a[1], (int) a[2]));
            case "card": return bit(x.card((int) a[0], (int) a[1]));
            case "sheetWeight": return x.sheetWeight((int) a[0], a[1] == 1);
            case "odds": return bit(x.odds((int) a[0], (int) a[1]));
            case "half": return bit(x.half((int) a[0], (int) a[1]));
            case "way": return x.way((int) a[0], (int) a[1]);
            case "walked": return x.walked((int) a[0]);
            case "amiss": return x.amiss((int) a[0]);
            case "group": return x.group((int) a[0], (int) a[1], (int) a[2]);
            case "twins": return bit(x.twins());
            case "strange": return bit(x.strange((int) a[0]));
            case "goes": return bit(x.goes((int) a[0], (int) a[1], (int) a[2]));
            case "number": return bit(x.number((int) a[0], (int) a[1], (int) a[2]));
            case "bounds": return bit(x.bounds((int) a[0], (int) a[1], (int) a[2], a[3] == 1));
            case "unlike": return x.unlike((int) a[0]);
            case "doubtful": return x.doubtful((int) a[0], (int) a[1]);
            case "flagged": return x.flagged((int) a[0]);
            case "hides": return x.hides((int) a[0], (int) a[1]);
            case "hidden": return x.hidden((int) a[0]);
            case "worth": return x.worth((int) a[0], (int) a[1], (int) a[2]);
            case "deters": return x.deters((int) a[0], (int) a[1]);
            case "checked": return x.checked((int) a[0], (int) a[1]);
            case "found": return x.found();
            case "world": return x.world((int) a[0], (int) a[1], (int) a[2]);
            case "score": return x.score((int) a[0], (int) a[1]);
            case "mark": return x.mark();
            case "back": return x.back();
            default: throw new IllegalArgumentException(name);
        }
    }

    private static long bit(boolean b) {
        return b ? 1 : 0;
    }
}
