import java.io.IOException;
import java.lang.management.ManagementFactory;
import java.lang.reflect.Constructor;
import java.lang.reflect.Field;
import java.lang.reflect.Method;
import java.lang.reflect.Modifier;
import java.nio.file.Files;
import java.nio.file.Path;
import java.util.List;
import java.util.Map;
import java.util.TreeMap;
import java.util.regex.Matcher;
import java.util.regex.Pattern;

/** Rules of LANGUAGE.md that can be seen in the file's words or in the class, and what a call makes. */
public final class LanguageTest {
    private static final Path FILE = Path.of("src/main/java/NoteHouse.java");
    private static final int LINES = 62;
    private static final int DEEP = 8;
    private static int wrong;

    private LanguageTest() {
    }

    public static void main(String[] args) throws IOException {
        String source = Files.readString(FILE);
        words(withoutCommentsAndTexts(source));
        methods(source.split("\n"));
        face();
        constants();
        for (Map.Entry<String, Integer> call : CallDepth.ofPublic(FILE).entrySet()) {
            check(call.getValue() <= DEEP, call.getKey() + "() goes " + call.getValue() + " deep");
        }
        whatCallsMake();
        System.out.println(wrong == 0 ? "the language is kept" : wrong + " rules are broken");
        if (wrong != 0) {
            System.exit(1);
        }
    }

    private static void check(boolean right, String told) {
        if (!right) {
            wrong++;
            System.out.println(told);
        }
    }

    private static String withoutCommentsAndTexts(String source) {
        return source.replaceAll("(?s)/\\*.*?\\*/", "").replaceAll("//[^\n]*", "")
                .replaceAll("\"[^\"\n]*\"", "\"\"").replaceAll("'[^'\n]*'", "' '");
    }

    private static void words(String code) {
        for (String word : List.of("throw", "throws", "try", "catch", "finally", "synchronized", "assert",
                "import", "package", "native", "volatile", "transient", "yield", "var", "goto", "strictfp",
                "Object", "System.out", "Random", "equals", "hashCode", "toString", "clone")) {
            check(!Pattern.compile("\\b" + Pattern.quote(word) + "\\b").matcher(code).find(),
                    "the file has the word " + word);
        }
        check(!code.contains("->"), "a lambda or an arrow");
        check(!code.contains("::"), "a method reference");
        check(!code.contains("@"), "an annotation");
        Matcher outer = Pattern.compile("\\b([A-Z][a-z]+)\\.\\w+\\(").matcher(code);
        while (outer.find()) {
            check(List.of("Math", "Integer", "System", "Texts").contains(outer.group(1)),
                    "a library call: " + outer.group());
        }
        for (char c : code.toCharArray()) {
            check(c >= 9 && c < 127, "a sign beyond 126");
        }
    }

    private static void methods(String[] lines) {
        String name = null;
        int from = 0;
        for (int i = 0; i < lines.length; i++) {
            Matcher m = Pattern.compile("^ {4}(?: {4})?[a-zA-Z][\\w\\[\\] ]* (\\w+)\\(.*\\{$").matcher(lines[i]);
            if (m.find() && !lines[i].contains("class ")) {
                name = m.group(1);
                from = i;
            }
            if (name != null && lines[i].matches("^ {4}(?: {4})?\\}$")) {
                check(i - from < LINES, name + " has " + (i - from + 1) + " lines");
                name = null;
            }
            check(lines[i].length() <= 120, "line " + (i + 1) + " is long");
        }
    }

    private static void face() {
        Map<String, Integer> due = new TreeMap<>();
        for (String told : ("town 0 road 3 far 2 house 2 gold 2 mind 3 bold 2 look 2 down 2 give 3 present 2 "
                + "burn 1 forge 2 number 1 copyAt 2 trail 3 found 2 promise 4 bill 4 deposit 3 help 2 sell 1 "
                + "ask 1 of 2 name 2 price 2 gets 1 assets 1 trade 4 goesOn 2 tell 3 read 1 week 2 flow 1 "
                + "rate 1 feed 2 wipe 0 text 2 says 2 why 2 run 1 sheet 2 knew 3 count 1 attempt 3 plan 2 "
                + "judge 0 image 0 back 0 lay 1 set 2 tear 0 row 1 copy 3 status 1").split("(?<=\\d) ")) {
            due.put(told.split(" ")[0], Integer.valueOf(told.split(" ")[1]));
        }
        Map<String, Integer> got = new TreeMap<>();
        for (Method m : NoteHouse.class.getDeclaredMethods()) {
            if (Modifier.isPublic(m.getModifiers())) {
                got.put(m.getName(), m.getParameterCount());
                check(m.getReturnType() == int.class, m + " gives no int");
                for (Class<?> p : m.getParameterTypes()) {
                    check(p == int.class, m + " takes no int");
                }
            } else {
                check(Modifier.isPrivate(m.getModifiers()), m + " isn't private");
                check(!due.containsKey(m.getName()), m + " bears the name of a public one");
            }
        }
        check(got.equals(due), "the face is " + got);
        check(Modifier.isFinal(NoteHouse.class.getModifiers()), "the class isn't final");
        Constructor<?>[] made = NoteHouse.class.getDeclaredConstructors();
        check(made.length == 1 && Modifier.isPublic(made[0].getModifiers()), "constructors");
        Class<?>[] inside = NoteHouse.class.getDeclaredClasses();
        check(inside.length <= 11, "classes inside: " + inside.length);
        for (Class<?> c : inside) {
            check(Modifier.isStatic(c.getModifiers()) && !Modifier.isPublic(c.getModifiers()), c + "");
            classInside(c, due);
        }
        fields(NoteHouse.class);
    }

    private static void classInside(Class<?> c, Map<String, Integer> face) {
        for (Method m : c.getDeclaredMethods()) {
            check(!Modifier.isPublic(m.getModifiers()), m + " is public");
            check(m.getParameterCount() <= 7, m + " takes too much");
            check(!face.containsKey(m.getName()), m + " bears the name of a public one");
        }
        fields(c);
    }

    private static void fields(Class<?> c) {
        int n = 0;
        for (Field f : c.getDeclaredFields()) {
            boolean isStatic = Modifier.isStatic(f.getModifiers());
            n += isStatic ? 0 : 1;
            check(!isStatic || Modifier.isFinal(f.getModifiers()), f + " is static, and not final");
            check(!isStatic || !f.getType().isArray(), f + " is a static array");
        }
        check(n <= 20, c + " has " + n + " fields");
    }

    private static void constants() {
        int[] got = {NoteHouse.NONE, NoteHouse.MISSING, NoteHouse.BEYOND, NoteHouse.BELOW, NoteHouse.KIND,
            NoteHouse.COPY, NoteHouse.NO, NoteHouse.FULL};
        for (int i = 0; i < got.length; i++) {
            check(got[i] == -1 - i, "constant " + i + " is " + got[i]);
        }
    }

    private static void whatCallsMake() {
        if (!(ManagementFactory.getThreadMXBean() instanceof com.sun.management.ThreadMXBean)) {
            return;
        }
        var threads = (com.sun.management.ThreadMXBean) ManagementFactory.getThreadMXBean();
        long me = Thread.currentThread().getId();
        long before = threads.getThreadAllocatedBytes(me);
        NoteHouse house = new NoteHouse();
        long made = threads.getThreadAllocatedBytes(me) - before;
        check(made < 400000, "a new object makes " + made + " bytes");
        busy(house);
        busy(new NoteHouse());
        before = threads.getThreadAllocatedBytes(me);
        busy(house);
        made = threads.getThreadAllocatedBytes(me) - before;
        check(made < 20000, "calls make " + made + " bytes");
    }

    private static void busy(NoteHouse x) {
        x.house(0, 0);
        x.house(0, 0);
        x.house(1, 0);
        x.gold(0, 900);
        x.give(0, 1, 200);
        x.deposit(1, 3, 50);
        x.trade(1, 2, 100, 9);
        x.promise(1, 2, 900, 3);
        for (char c : "out gold*2 if not (gold<5 and notes=3 or day>900)".toCharArray()) {
            x.feed(c, 1);
        }
        x.text(0, 700);
        for (int i = 0; i < 4; i++) {
            x.plan(5 + 32 * 7 + 1024 * 3, 3);
            x.judge();
            x.attempt(99, 2, 0);
        }
        x.image();
        x.run(10);
        x.gets(1);
        x.back();
    }
}
