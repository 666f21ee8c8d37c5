import java.io.IOException;
import java.lang.management.ManagementFactory;
import java.lang.reflect.Field;
import java.lang.reflect.Member;
import java.lang.reflect.Method;
import java.lang.reflect.Modifier;
import java.nio.file.Files;
import java.nio.file.Path;
import java.util.Map;
import java.util.Set;
import java.util.TreeMap;
import java.util.TreeSet;
import java.util.regex.Matcher;
import java.util.regex.Pattern;

/** The public face, the rules of LANGUAGE.md that can be looked up, and how little a run makes. */
final class FaceTest {
    private static final Check CHECK = new Check("FaceTest");
    private static final Path SOURCE = Path.of("src/main/java/CellPacks.java");
    private static final Path DOCUMENT = Path.of("../shared/DOC.md");
    private static final String FACE = "feed1 end1 text0 fault0 rule1 cell2 group2 take1 would2 where2 bound1 joined1 "
        + "move2 swap2 better0 add1 drop1 set2 rate2 groups1 bleed1 plan1 fill0 draw2 keep1 back1 sheet3 lay3 read4 torn0 count1";

    public static void main(String[] args) throws Exception {
        constants();
        methods();
        asTheDocumentWrites();
        inTheOrderOfTheInterface();
        nothingElseIsVisible();
        classesInside();
        words();
        lengths();
        room();
        CHECK.finish();
    }

    private static void constants() {
        CHECK.due("BAD", CellPacks.BAD, -1);
        CHECK.due("STATE", CellPacks.STATE, -2);
        CHECK.due("FULL", CellPacks.FULL, -3);
        CHECK.due("NONE", CellPacks.NONE, -4);
    }

    private static void methods() {
        Set<String> due = new TreeSet<>(Set.of(FACE.split(" ")));
        Set<String> got = new TreeSet<>();
        for (Method m : CellPacks.class.getDeclaredMethods()) {
            if (Modifier.isPublic(m.getModifiers())) {
                got.add(m.getName() + m.getParameterCount());
                CHECK.dueTrue(m + " answers an int", m.getReturnType() == int.class);
                for (Class<?> type : m.getParameterTypes()) {
                    CHECK.dueTrue(m + " takes ints", type == int.class);
                }
            }
        }
        CHECK.dueTrue("the methods " + got, got.equals(due));
        CHECK.due("constructors", CellPacks.class.getConstructors().length, 1);
        CHECK.due("its parameters", CellPacks.class.getConstructors()[0].getParameterCount(), 0);
    }

    /** The face of the document and the signature of each promise, to the letter. */
    private static void asTheDocumentWrites() throws IOException {
        String source = Files.readString(SOURCE);
        String document = Files.readString(DOCUMENT);
        String face = document.substring(document.indexOf("```java"), document.indexOf("## Terms"));
        int told = 0;
        Matcher line = Pattern.compile("(?m)^ +(public [^;]+);$").matcher(face);
        while (line.find()) {
            told++;
            String end = line.group(1).contains("=") ? ";" : " {";
            CHECK.dueTrue(line.group(1), source.contains("\n    " + line.group(1) + end));
        }
        CHECK.due("lines of the face", told, FACE.split(" ").length + 2);
        Matcher promise = Pattern.compile("(?m)^`([^`]+\\))`:").matcher(document);
        int promises = 0;
        while (promise.find()) {
            promises++;
            CHECK.dueTrue(promise.group(1), source.contains("\n    public " + promise.group(1) + " {"));
        }
        CHECK.due("promises", promises, 32);
    }

    /** Calls stand in the order of the document, each part behind the words that are said ahead of it. */
    private static void inTheOrderOfTheInterface() throws IOException {
        String source = Files.readString(SOURCE);
        Matcher part = Pattern.compile("Ahead of the calls (.*) the interface says: (---- .*)\\.").matcher(Files.readString(DOCUMENT));
        int at = 0;
        while (part.find()) {
            at = dueBehind(source, "\n    // " + part.group(2) + "\n", at);
            for (String call : part.group(1).replace("`", "").split(", ")) {
                at = dueBehind(source, "\n    public int " + call + "(", at);
            }
        }
        CHECK.dueTrue("parts are told", at > 0);
    }

    private static int dueBehind(String source, String words, int at) {
        int found = source.indexOf(words, at);
        CHECK.dueTrue("'" + words.trim() + "' stands behind what is told ahead of it", found >= 0);
        return Math.max(at, found);
    }

    private static void nothingElseIsVisible() {
        Set<String> names = Set.of("BAD", "STATE", "FULL", "NONE");
        CHECK.dueTrue("the class is public and final",
            Modifier.isPublic(CellPacks.class.getModifiers()) && Modifier.isFinal(CellPacks.class.getModifiers()));
        for (Field f : CellPacks.class.getDeclaredFields()) {
            CHECK.dueTrue(f + " is private", names.contains(f.getName()) == Modifier.isPublic(f.getModifiers())
                && (names.contains(f.getName()) || isPrivate(f)));
        }
        Set<String> face = faceNames();
        for (Method m : CellPacks.class.getDeclaredMethods()) {
            CHECK.dueTrue(m + " is private or public", isPrivate(m) || Modifier.isPublic(m.getModifiers()));
            CHECK.dueTrue(m + " has a name of its own", !isPrivate(m) || !face.contains(m.getName()));
        }
    }

    private static boolean isPrivate(Member m) {
        return Modifier.isPrivate(m.getModifiers());
    }

    private static Set<String> faceNames() {
        Set<String> names = new TreeSet<>();
        for (String name : FACE.split(" ")) {
            names.add(name.substring(0, name.length() - 1));
        }
        return names;
    }

    private static void classesInside() {
        Set<String> face = faceNames();
        CHECK.dueTrue("at most twelve classes", CellPacks.class.getDeclaredClasses().length < 12);
        for (Class<?> inside : CellPacks.class.getDeclaredClasses()) {
            CHECK.dueTrue(inside + " is static", Modifier.isStatic(inside.getModifiers()));
            for (Method m : inside.getDeclaredMethods()) {
                CHECK.dueTrue(m + " has a name of its own", !face.contains(m.getName()));
                CHECK.dueTrue(m + " takes at most seven", m.getParameterCount() <= 7);
            }
            int fields = 0;
            for (Field f : inside.getDeclaredFields()) {
                fields += Modifier.isStatic(f.getModifiers()) ? 0 : 1;
                CHECK.dueTrue(f + " is final if static",
                    !Modifier.isStatic(f.getModifiers()) || Modifier.isFinal(f.getModifiers()));
            }
            CHECK.dueTrue(inside + " has at most twenty fields", fields <= 20);
        }
    }

    private static void words() throws IOException {
        String source = Files.readString(SOURCE);
        String code = source.replaceAll("(?s)/\\*.*?\\*/", "").replaceAll("//[^\n]*", "").replaceAll("\"[^\"]*\"", "\"\"");
        Matcher bad = Pattern.compile("\\b(throw|throws|try|catch|synchronized|assert|package|var|Exception)\\b|->|::|@|\\w+Exact\\b").matcher(code);
        CHECK.dueTrue("no word that is ruled out", !bad.find());
        Matcher imports = Pattern.compile("import ([^;]+);").matcher(code);
        while (imports.find()) {
            CHECK.dueTrue("import " + imports.group(1), imports.group(1).equals("java.util.Arrays"));
        }
        Set<String> library = Set.of("System.arraycopy", "Arrays.fill", "Math.max", "Math.min", "Integer.bitCount");
        Map<String, Integer> used = new TreeMap<>();
        Matcher calls = Pattern.compile("\\b[A-Z][A-Za-z]*[a-z]\\.[a-z]\\w*(?=\\()").matcher(code);
        while (calls.find()) {
            used.merge(calls.group(), 1, Integer::sum);
        }
        CHECK.dueTrue("the library's functions " + used, library.containsAll(used.keySet()));
        CHECK.dueTrue("the source is of plain signs", source.chars().allMatch(c -> c > 0 && c < 127));
    }

    /** A method ends with the brace that stands as far in as its first line. */
    private static void lengths() throws IOException {
        Matcher method = Pattern.compile("(?ms)^( +)(?:public|private) ([^=;{]*\\)) \\{\n(.*?)^\\1\\}$").matcher(Files.readString(SOURCE));
        int told = 0;
        while (method.find()) {
            told++;
            CHECK.dueTrue(method.group(2) + " is short", method.group(3).split("\n").length <= 60);
        }
        CHECK.dueTrue("methods are found: " + told, told > FACE.split(" ").length);
    }

    /** After the constructor nothing is made, whatever is called. */
    private static void room() {
        com.sun.management.ThreadMXBean bean = (com.sun.management.ThreadMXBean) ManagementFactory.getThreadMXBean();
        CellPacks x = new CellPacks();
        long thread = Thread.currentThread().getId();
        dearCalls(x);
        long before = bean.getThreadAllocatedBytes(thread);
        for (int i = 0; i < 20; i++) {
            dearCalls(x);
        }
        long made = bean.getThreadAllocatedBytes(thread) - before;
        CHECK.dueTrue("bytes made by calls: " + made, made < 2_000);
    }

    private static void dearCalls(CellPacks x) {
        x.feed('x');
        x.text();
        x.end(0);
        x.text();
        x.groups(5);
        x.draw(3, 9);
        x.take(3);
        x.draw(3, 9);
        x.would(2, 0);
        x.bound(2);
        x.joined(3);
        x.better();
        x.plan(0);
        x.bleed(200);
        x.fill();
        x.keep(0);
        x.back(0);
        x.sheet(0, 1, 40);
        x.lay(0, 1, 1);
        x.read(0, 1, 0, 20);
        x.read(0, 2, 0, 20);
    }
}
