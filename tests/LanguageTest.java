import java.lang.reflect.Constructor;
import java.lang.reflect.Field;
import java.lang.reflect.Method;
import java.lang.reflect.Modifier;
import java.nio.charset.StandardCharsets;
import java.nio.file.Files;
import java.nio.file.Path;
import java.nio.file.Paths;
import java.util.ArrayDeque;
import java.util.Arrays;
import java.util.Deque;
import java.util.HashSet;
import java.util.IdentityHashMap;
import java.util.Map;
import java.util.Set;
import java.util.TreeSet;
import java.util.regex.Matcher;
import java.util.regex.Pattern;

/** What of LANGUAGE.md can be seen from outside: the face, words that must not stand, lengths, and the room an object takes. */
public final class LanguageTest {
    private static final String FACE = "status() top() bottom() tray(int,int,int) write(int,int,long) read(int,int) "
        + "pour(int,int,int,int,int) feed(int,int,int,int,int) land(int) rules(int) fault(int) told(int) question(int,int) "
        + "weight(int,boolean,int,int) sheet(int) look(int,int) alter(int,int,int) card(int,int) sheetWeight(int,boolean) "
        + "odds(int,int) half(int,int) way(int,int) walked(int) amiss(int) group(int,int,int) twins() strange(int) "
        + "goes(int,int,int) number(int,int,int) bounds(int,int,int,boolean) unlike(int) doubtful(int,int) flagged(int) "
        + "hides(int,int) hidden(int) worth(int,int,int) deters(int,int) checked(int,int) found() world(int,int,int) "
        + "score(int,int) mark() back()";
    private static final Asked T = new Asked();

    public static void main(String[] args) throws Exception {
        Path file = Paths.get("src/main/java/KitchenSheets.java");
        String source = new String(Files.readAllBytes(file), StandardCharsets.UTF_8);
        String code = source.replaceAll("(?s)/\\*.*?\\*/", "").replaceAll("//[^\n]*", "").replaceAll("'.'", "0");
        face();
        inside();
        words(code);
        lengths(code);
        room();
        T.end("LanguageTest");
    }

    private static void face() {
        T.about("rule 1");
        Set<String> names = new HashSet<>();
        Set<String> methods = new TreeSet<>();
        Class<?> c = KitchenSheets.class;
        for (Method m : c.getDeclaredMethods()) {
            if (Modifier.isPublic(m.getModifiers())) {
                names.add(m.getName());
                StringBuilder s = new StringBuilder(m.getName()).append('(');
                for (Class<?> p : m.getParameterTypes()) {
                    s.append(s.charAt(s.length() - 1) == '(' ? "" : ",").append(p.getName());
                }
                methods.add(s.append(')').toString());
            }
        }
        T.due("the methods are the document's", methods.equals(new TreeSet<>(Arrays.asList(FACE.split(" ")))), true);
        for (Method m : c.getDeclaredMethods()) {
            int mods = m.getModifiers();
            T.due(m + " is public or private", Modifier.isPublic(mods) || Modifier.isPrivate(mods), true);
            T.due(m + " has a name of its own", Modifier.isPublic(mods) || !names.contains(m.getName()), true);
        }
        for (Field f : c.getDeclaredFields()) {
            T.due(f + " is private", Modifier.isPrivate(f.getModifiers()) != f.getName().equals("NONE"), true);
        }
        for (Class<?> inner : c.getDeclaredClasses()) {
            T.due(inner + " is static and not public", Modifier.isStatic(inner.getModifiers())
                && !Modifier.isPublic(inner.getModifiers()) && !Modifier.isProtected(inner.getModifiers()), true);
            for (Method m : inner.getDeclaredMethods()) {
                T.due(m + " has a name of its own", !names.contains(m.getName()), true);
            }
        }
        T.due("one constructor", c.getDeclaredConstructors().length, 1);
    }

    private static void inside() {
        T.about("rules 5 and 11");
        Class<?>[] inner = KitchenSheets.class.getDeclaredClasses();
        T.due("at most twelve classes", inner.length + 1 <= 12, true);
        Class<?>[] all = Arrays.copyOf(inner, inner.length + 1);
        all[inner.length] = KitchenSheets.class;
        for (Class<?> c : all) {
            int fields = 0;
            for (Field f : c.getDeclaredFields()) {
                boolean isStatic = Modifier.isStatic(f.getModifiers());
                fields += isStatic ? 0 : 1;
                T.due(f + " is final if static", !isStatic || Modifier.isFinal(f.getModifiers()), true);
            }
            T.due(c + " has at most twenty fields", fields <= 20, true);
            for (Method m : c.getDeclaredMethods()) {
                T.due(m + " takes at most seven", m.getParameterCount() <= 7, true);
            }
            for (Constructor<?> k : c.getDeclaredConstructors()) {
                T.due(k + " takes at most seven", k.getParameterCount() <= 7, true);
            }
        }
    }

    private static void words(String code) {
        T.about("rules 2 to 6 and 13");
        String[] never = {"\\bthrow\\b", "\\bthrows\\b", "\\btry\\b", "\\bcatch\\b", "\\bsynchronized\\b", "\\bassert\\b",
            "->", "::", "\\bimport\\b", "\\bpackage\\b", "\\bString\\b", "\"", "\\bThread\\b", "\\bRandom\\b", "\\bObject\\b",
            "\\bvolatile\\b", "\\bnative\\b", "Exact\\b", "\\bdouble\\b", "\\bfloat\\b", "\\bhashCode\\b", "\\bequals\\b", "@"};
        for (String word : never) {
            T.due(word + " stands", Pattern.compile(word).matcher(code).find(), false);
        }
        Matcher calls = Pattern.compile("\\b(System|Math|Integer|Long|Arrays)\\.(\\w+)").matcher(code);
        Set<String> known = new HashSet<>(Arrays.asList("System.arraycopy", "Math.abs", "Math.min", "Math.max", "Integer.bitCount"));
        while (calls.find()) {
            T.due(calls.group() + " is known", known.contains(calls.group()), true);
        }
        T.about("what a call makes");
        boolean inConstructor = false;
        for (String line : code.split("\n")) {
            inConstructor = line.contains("public KitchenSheets()") || inConstructor && !line.equals("    }");
            if (Pattern.compile("\\bnew\\b").matcher(line).find() && !inConstructor) {
                T.due("a field's " + line.trim(), line.matches(" +(private |final |static )*[A-Z]?\\w+(\\[\\])? \\w+ = new .*;"), true);
            }
        }
    }

    private static void lengths(String code) {
        T.about("rule 11: lengths");
        int begin = 0;
        String[] lines = code.split("\n");
        for (int i = 0; i < lines.length; i++) {
            T.due("line " + (i + 1) + " fits", lines[i].length() <= 130, true);
            if (lines[i].matches(" {4,8}(public|private|static|boolean|int|long|void|[A-Z]\\w*)\\b[^=;]*\\) \\{")) {
                begin = i;
            }
            if (lines[i].matches(" {4,8}\\}") && i - begin > 60) {
                T.due("the method at line " + (begin + 1) + " has " + (i - begin) + " lines", i - begin, 60);
                begin = i;
            }
        }
    }

    /** All calls of a run live in one room, so an object must be small, and no call may make it larger. */
    private static void room() throws Exception {
        T.about("room");
        KitchenSheets x = new KitchenSheets();
        long[] before = count(x);
        Asked.land(x, "ask a 2;ask b 2;law b by a 8 8 16 0;door 0 0;");
        Asked.rules(x, "flag same 1 or not (amiss and made 3);");
        for (int i = 0; i < 16; i++) {
            Asked.sheet(x, 0, 0, i * 10, i * 10 + 9, i % 2, 0);
        }
        x.mark();
        x.world(1, 4, 4);
        x.hides(0, 0);
        x.checked(99, 8);
        x.walked(0);
        x.back();
        long[] behind = count(x);
        T.due("objects", behind[0], before[0]);
        T.due("elements", behind[1], before[1]);
        System.out.println("an object is " + before[0] + " objects and arrays, " + before[1] + " fields and elements");
        T.due(before[0] + " objects are few", before[0] <= 300, true);
        T.due(before[1] + " fields and elements are few", before[1] <= 12000, true);
    }

    private static long[] count(Object root) throws Exception {
        Map<Object, Boolean> seen = new IdentityHashMap<>();
        Deque<Object> open = new ArrayDeque<>();
        open.add(root);
        seen.put(root, true);
        long elements = 0;
        while (!open.isEmpty()) {
            Object o = open.remove();
            if (o.getClass().isArray()) {
                elements += java.lang.reflect.Array.getLength(o);
                if (o instanceof Object[]) {
                    for (Object e : (Object[]) o) {
                        follow(e, seen, open);
                    }
                }
                continue;
            }
            for (Field f : o.getClass().getDeclaredFields()) {
                if (!Modifier.isStatic(f.getModifiers())) {
                    elements++;
                    f.setAccessible(true);
                    if (!f.getType().isPrimitive()) {
                        follow(f.get(o), seen, open);
                    }
                }
            }
        }
        return new long[] {seen.size(), elements};
    }

    private static void follow(Object o, Map<Object, Boolean> seen, Deque<Object> open) {
        if (o != null && seen.put(o, true) == null) {
            open.add(o);
        }
    }
}
