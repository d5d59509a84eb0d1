import java.lang.management.ManagementFactory;
import java.lang.reflect.Field;
import java.lang.reflect.Method;
import java.lang.reflect.Modifier;
import java.nio.file.Files;
import java.nio.file.Path;
import java.util.List;
import java.util.Set;
import java.util.TreeSet;
import java.util.regex.Matcher;
import java.util.regex.Pattern;

/** What of LANGUAGE.md a program can see: the face, the words of the source, the room. */
public final class LanguageTest {
    private static final String SOURCE = "src/main/java/StockGrid.java";
    private static final String[] FACE = {
        "long world(int,int,long)", "long add(int,int,int,int,int,int)",
        "long pick(int,int,int,int,int,long)", "long move(int,int,int,int,int,int,int)",
        "long level(int,int,int,int,int)", "long zone(int,int,int,int,int,long)",
        "long zoneAt(int,int)", "int begin()", "int commit()", "int cancel()",
        "int feed(int,int,int,int,int)", "int run(int)", "int fault(int)",
        "long sum(int,int,int,int,int)", "long at(int,int,int)",
        "long bound(int,int,int,int,int,int)", "long empty(int,int,int,int)",
        "long share(int,int,int,int,int,int)", "long atLeast(int,int,int,int,int,long)",
        "long value(int,int,int,int,int,long)", "long hole(int)",
        "long before(int,int,int,int,int,int)", "long find(int,int,long)",
        "long findIn(int,int,int,int,int,long)", "long touched(int,int,int,int,int,long)",
        "long ahead(int,int,int,int)", "long depot(int,int)", "long window(int,int,int,int)",
        "long line(int,int,int)", "int borders(int,int)", "int border(int,int)",
        "long act(int,int)", "long count(int)"};
    private static int wrong = 0;

    public static void main(String[] args) throws Exception {
        checkFace();
        checkClasses();
        checkWords();
        checkMethods();
        checkRoom();
        System.out.println(wrong == 0 ? "the language is kept" : wrong + " faults of language");
        if (wrong != 0) {
            System.exit(1);
        }
    }

    private static void fail(String what) {
        wrong++;
        System.out.println(what);
    }

    private static String told(Method method) {
        StringBuilder text = new StringBuilder(method.getReturnType() + " " + method.getName() + "(");
        for (Class<?> type : method.getParameterTypes()) {
            text.append(text.charAt(text.length() - 1) == '(' ? "" : ",").append(type);
        }
        return text.append(')').toString();
    }

    private static void checkFace() {
        Class<?> type = StockGrid.class;
        if (!Modifier.isPublic(type.getModifiers()) || !Modifier.isFinal(type.getModifiers())) {
            fail("the class is not public and final");
        }
        Set<String> due = new TreeSet<>(List.of(FACE));
        Set<String> names = new TreeSet<>();
        for (Method method : type.getDeclaredMethods()) {
            if (Modifier.isPublic(method.getModifiers())) {
                names.add(method.getName());
                if (!due.remove(told(method)) || Modifier.isStatic(method.getModifiers())) {
                    fail("public, and not in the document: " + told(method));
                }
            }
        }
        due.forEach(missing -> fail("missing: " + missing));
        for (Method method : type.getDeclaredMethods()) {
            if (!Modifier.isPublic(method.getModifiers())) {
                if (!Modifier.isPrivate(method.getModifiers())) {
                    fail("neither public nor private: " + told(method));
                }
                if (names.contains(method.getName())) {
                    fail("private by a public one's name: " + told(method));
                }
            }
        }
        for (Field field : type.getDeclaredFields()) {
            boolean isFace = field.getName().equals("NONE");
            if (isFace != Modifier.isPublic(field.getModifiers())
                    || (!isFace && !Modifier.isPrivate(field.getModifiers()))) {
                fail("field: " + field);
            }
        }
        if (type.getDeclaredConstructors().length != 1 || type.getConstructors().length != 1) {
            fail("not just one public constructor");
        }
    }

    private static void checkClasses() {
        Class<?>[] inside = StockGrid.class.getDeclaredClasses();
        if (inside.length + 1 > 12) {
            fail("classes: " + (inside.length + 1));
        }
        for (Class<?> type : inside) {
            int how = type.getModifiers();
            if (!Modifier.isStatic(how) || Modifier.isPublic(how) || Modifier.isProtected(how)) {
                fail("not static, or seen from outside: " + type);
            }
            checkFields(type);
        }
        checkFields(StockGrid.class);
    }

    private static void checkFields(Class<?> type) {
        int fields = 0;
        for (Field field : type.getDeclaredFields()) {
            if (!Modifier.isStatic(field.getModifiers())) {
                fields++;
            } else if (!Modifier.isFinal(field.getModifiers())) {
                fail("static and not final: " + field);
            }
        }
        if (fields > 20) {
            fail(type + " has " + fields + " fields");
        }
    }

    /** The source without comments and without what stands in quotes. */
    private static String code() throws Exception {
        return Files.readString(Path.of(SOURCE))
                .replaceAll("(?s)/\\*.*?\\*/", "")
                .replaceAll("//[^\n]*", "")
                .replaceAll("\"[^\"\n]*\"", "\"\"")
                .replaceAll("'[^'\n]'", "' '");
    }

    private static void checkWords() throws Exception {
        String code = code();
        String[] never = {"\\bthrow\\b", "\\bthrows\\b", "\\btry\\b", "\\bcatch\\b", "\\bfinally\\b",
            "\\bsynchronized\\b", "\\bassert\\b", "\\bvolatile\\b", "\\bnative\\b", "\\bpackage\\b",
            "->", "::", "Exact\\b", "\\bvar\\b", "\\bObject\\b", "\\bMap\\b", "\\bThread\\b",
            "\\bdouble\\b", "\\bfloat\\b", "\\bstatic\\s*\\{", "\\bprotected\\b", "[^\\x00-\\x7F]",
            "\\bequals\\b", "\\bhashCode\\b", "\\btoString\\b", "@"};
        for (String word : never) {
            Matcher found = Pattern.compile(word).matcher(code);
            if (found.find()) {
                fail("in the source: " + found.group());
            }
        }
        Matcher imports = Pattern.compile("import ([^;]+);").matcher(code);
        while (imports.find()) {
            if (!imports.group(1).equals("java.util.Arrays")) {
                fail("import " + imports.group(1));
            }
        }
        Matcher library = Pattern.compile("\\b(System|Arrays|Math|Long|Integer)\\.(\\w+)").matcher(code);
        Set<String> allowed = Set.of("System.arraycopy", "Arrays.fill", "Math.min", "Math.max");
        while (library.find()) {
            if (!allowed.contains(library.group())) {
                fail("library: " + library.group());
            }
        }
    }

    private static void checkMethods() throws Exception {
        Matcher heads = Pattern.compile("\n( +)((?:\\w+(?:\\[\\])* )+\\w+|\\w+)\\(([^)]*)\\) \\{\n(.*?)\n\\1\\}\n",
                Pattern.DOTALL).matcher(code());
        int methods = 0;
        int from = 0;
        String text = code();
        while (heads.find(from)) {
            from = heads.start() + 1;
            String head = heads.group(2);
            if (head.matches("(if|for|while|switch|return).*")) {
                continue;
            }
            methods++;
            if (heads.group(3).split(",").length > 7) {
                fail("more than seven parameters: " + head);
            }
            if (heads.group(4).split("\n").length > 60) {
                fail("longer than sixty lines: " + head);
            }
        }
        if (methods < 100) {
            fail("only " + methods + " methods were seen in " + text.length() + " signs");
        }
    }

    /** Bytes that a run makes: no call but the first eight BEGINS may make anything. */
    private static void checkRoom() {
        com.sun.management.ThreadMXBean threads =
                (com.sun.management.ThreadMXBean) ManagementFactory.getThreadMXBean();
        long thread = Thread.currentThread().getId();
        exercise(new StockGrid());
        long start = threads.getThreadAllocatedBytes(thread);
        StockGrid grid = new StockGrid();
        long made = threads.getThreadAllocatedBytes(thread);
        exercise(grid);
        long first = threads.getThreadAllocatedBytes(thread);
        exercise(grid);
        long second = threads.getThreadAllocatedBytes(thread);
        // 7.3 million elements of at most eight bytes; a run has at most 512 calls.
        if (made - start > 7_300_000L * 8 / 512) {
            fail("a new object takes " + (made - start) + " bytes");
        }
        if (first - made > 8 * 3 * 48 * 48 * 8 + 20_000) {
            fail("a run makes " + (first - made) + " bytes");
        }
        if (second - first > 4_000) {
            fail("a second run makes " + (second - first) + " bytes");
        }
    }

    private static long exercise(StockGrid grid) {
        long all = grid.world(500, 500, 1000);
        for (int i = 0; i < 8; i++) {
            all += grid.begin();
            all += grid.add(i % 3, 3 * i, 2 * i, 3 * i + 20, 2 * i + 30, 9);
            all += grid.pick(i % 3, 0, 0, 499, 499, 100);
            all += grid.move(i % 3, 3, 3, 20, 20, 5, 5) + grid.level(i % 3, 0, 0, 30, 30);
            all += grid.zone(i % 6, 0, 0, 499, 499, 3_000_000_000_000_000_000L) + grid.zoneAt(i % 6, 5);
            all += grid.feed(0x62656769, 0x6E3B6361, 0x6E63656C, 0x3B202020, 0x20202020) + grid.run(20);
            all += grid.sum(-1, 0, 0, 499, 499) + grid.at(0, 5, 5) + grid.bound(-1, 0, 0, 499, 499, 1);
            all += grid.empty(0, 0, 499, 499) + grid.share(0, 0, 0, 20, 20, 1);
            all += grid.atLeast(0, 0, 0, 499, 499, 3) + grid.value(-1, 0, 0, 499, 499, 240_000);
            all += grid.hole(4) + grid.before(i, 0, 0, 0, 20, 20) + grid.find(0, 1, 40);
            all += grid.findIn(0, 0, 0, 499, 499, 50) + grid.touched(0, 0, 0, 499, 499, 60);
            all += grid.ahead(0, 1, 20, 20) + grid.depot(0, 2) + grid.window(0, 20, 20, 2);
            all += grid.line(0, 1, 1) + grid.borders(0, 1) + grid.border(1, 3) + grid.act(i, 6);
            all += grid.fault(2) + grid.count(4);
        }
        for (int i = 0; i < 4; i++) {
            all += grid.commit() + grid.cancel();
        }
        return all;
    }
}
