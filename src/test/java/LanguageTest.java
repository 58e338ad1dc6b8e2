import java.io.IOException;
import java.lang.management.ManagementFactory;
import java.lang.reflect.Constructor;
import java.lang.reflect.Field;
import java.lang.reflect.Method;
import java.lang.reflect.Modifier;
import java.nio.charset.StandardCharsets;
import java.nio.file.Files;
import java.nio.file.Path;
import java.util.ArrayList;
import java.util.Arrays;
import java.util.HashSet;
import java.util.List;
import java.util.Set;
import java.util.TreeSet;
import java.util.regex.Matcher;
import java.util.regex.Pattern;

/** The rules of LANGUAGE.md that can be seen in the source or on the class, and that no call makes an object. */
public final class LanguageTest {
    private static int passed = 0;
    private static int failed = 0;

    private static final String FACE = "int status() long top() long bottom() boolean tray(int,int,int) boolean write(int,int,long)"
        + " long read(int,int) boolean pour(int,int,int,int,int) int feed(int,int,int,int,int) int room(int) int talks(int)"
        + " int fault(int) int told(int) int line(int) int thing(int,int) int on(int,int) int land(int,int) int boards(int)"
        + " int value(int) int things(int) boolean share(int) int envy(int) int fair() int chalk() int bulges() int border(int)"
        + " int strongest(int) int least(int) int wanted(int) int cede(int,int,int) int night() int sweep(int)"
        + " boolean move(int,int,int) boolean leg(int,int) boolean bends(int) boolean draw(int) int copy(int) int islands(int)"
        + " int island(int,int) int mainland(int) int joined(int,int,int,int) int passes(int,int,int) int steps(int,int,int)"
        + " int reach(int) int strait(int) int bridge(int) int bridged(int) int give(int,int) int giveIn(int,int,int)"
        + " int ask(int,int) int askIn(int,int,int) int price(int,int) int peace(int,int) int peaceIn(int,int,int) long lines(int)"
        + " int sure(int) int game(int) int first(int) int live(int) int lived(int) boolean mean(int,int,int) int mark() int undo()";

    private LanguageTest() {
    }

    public static void main(String[] args) throws IOException {
        face();
        classes();
        String source = Files.readString(Path.of("src/main/java/ChalkRoom.java"), StandardCharsets.ISO_8859_1);
        words(source, stripped(source));
        faceOfDocument(Files.readString(Path.of("../shared/DOC.md")), source);
        methods(stripped(source));
        noObjects();
        System.out.println("LanguageTest: " + passed + " passed, " + failed + " failed");
        if (failed > 0) {
            System.exit(1);
        }
    }

    private static void holds(int rule, String what, boolean fine) {
        if (fine) {
            passed++;
        } else {
            failed++;
            System.out.println("rule " + rule + ": " + what);
        }
    }

    private static void face() {
        Set<String> due = new TreeSet<>(Arrays.asList(FACE.split("(?<=\\)) ")));
        Set<String> found = new TreeSet<>();
        for (Method m : ChalkRoom.class.getDeclaredMethods()) {
            int mods = m.getModifiers();
            if (Modifier.isPublic(mods)) {
                List<String> types = new ArrayList<>();
                for (Class<?> t : m.getParameterTypes()) {
                    types.add(t.getName());
                }
                found.add(m.getReturnType().getName() + " " + m.getName() + "(" + String.join(",", types) + ")");
            } else {
                holds(1, m + " is not private", Modifier.isPrivate(mods) || m.isSynthetic());
            }
        }
        holds(1, "the face is " + found, found.equals(due) && due.size() == 62);
        for (Field f : ChalkRoom.class.getDeclaredFields()) {
            holds(1, f + " is not private", Modifier.isPrivate(f.getModifiers()) || f.getName().equals("NONE"));
        }
        for (Constructor<?> c : ChalkRoom.class.getDeclaredConstructors()) {
            holds(1, c + " is not the face's", Modifier.isPublic(c.getModifiers()) && c.getParameterCount() == 0);
        }
        holds(1, "the class is not public and final", Modifier.isPublic(ChalkRoom.class.getModifiers())
            && Modifier.isFinal(ChalkRoom.class.getModifiers()));
    }

    /** Row by row as the document has it, the names of the parameters and the order, too. */
    private static void faceOfDocument(String document, String source) {
        List<String> due = new ArrayList<>();
        Matcher m = Pattern.compile("^    (public .*);$", Pattern.MULTILINE).matcher(document);
        while (m.find()) {
            due.add(m.group(1));
        }
        List<String> found = new ArrayList<>();
        Matcher n = Pattern.compile("^    (public .*?)(;| \\{)$", Pattern.MULTILINE).matcher(source);
        while (n.find()) {
            found.add(n.group(1));
        }
        holds(1, "the face is " + found + "\n  and in the document " + due, due.equals(found) && due.size() == 64);
    }

    private static void classes() {
        Set<String> publics = new HashSet<>();
        for (Method m : ChalkRoom.class.getMethods()) {
            publics.add(m.getName());
        }
        List<Class<?>> all = new ArrayList<>(Arrays.asList(ChalkRoom.class.getDeclaredClasses()));
        holds(11, "more than twelve classes", all.size() + 1 <= 12);
        for (Class<?> c : all) {
            holds(2, c + " is not static", Modifier.isStatic(c.getModifiers()));
            holds(1, c + " is public", !Modifier.isPublic(c.getModifiers()) && !Modifier.isProtected(c.getModifiers()));
            for (Method m : c.getDeclaredMethods()) {
                holds(1, m + " bears the name of a public one", !publics.contains(m.getName()));
            }
        }
        all.add(ChalkRoom.class);
        for (Class<?> c : all) {
            int fields = 0;
            for (Field f : c.getDeclaredFields()) {
                boolean isStatic = Modifier.isStatic(f.getModifiers());
                fields += isStatic ? 0 : 1;
                holds(5, f + " is static and not final", !isStatic || Modifier.isFinal(f.getModifiers()));
            }
            holds(11, c + " has " + fields + " fields", fields <= 20);
            for (Method m : c.getDeclaredMethods()) {
                holds(11, m + " has too many parameters", m.getParameterCount() <= 7);
            }
        }
    }

    /** The source with its comments gone and its texts emptied, lines kept. */
    private static String stripped(String source) {
        Matcher m = Pattern.compile("/\\*.*?\\*/|//[^\n]*|\"(?:\\\\.|[^\"\\\\])*\"|'(?:\\\\.|[^'\\\\])'", Pattern.DOTALL)
            .matcher(source);
        StringBuilder sb = new StringBuilder();
        while (m.find()) {
            String found = m.group();
            String instead = found.startsWith("\"") ? "\"\"" : found.startsWith("'") ? "' '" : found.replaceAll("[^\n]", "");
            m.appendReplacement(sb, Matcher.quoteReplacement(instead));
        }
        m.appendTail(sb);
        return sb.toString();
    }

    private static void words(String source, String code) {
        holds(4, "a sign above 127", source.chars().allMatch(c -> c == '\n' || c >= 32 && c < 127));
        for (String w : "throw throws try catch finally synchronized assert lambda protected native volatile transient package"
            .split(" ")) {
            holds(6, "the word " + w, !Pattern.compile("\\b" + w + "\\b").matcher(code).find());
        }
        holds(2, "a lambda or method reference", !code.contains("->") && !code.contains("::"));
        for (String m : found(code, "import ([\\w.]+);")) {
            holds(4, "import of " + m, m.equals("java.util.Arrays") || m.equals("java.util.ArrayList") || m.equals("java.util.List"));
        }
        for (String m : found(code, "\\bArrays\\.(\\w+)")) {
            holds(4, "Arrays." + m, m.equals("fill") || m.equals("copyOf") || m.equals("copyOfRange"));
        }
        for (String m : found(code, "\\bSystem\\.(\\w+)")) {
            holds(4, "System." + m, m.equals("arraycopy"));
        }
        for (String m : found(code, "\\b(?:Math|Integer|Long)\\.(\\w+)")) {
            holds(4, "Math." + m, !m.endsWith("Exact"));
        }
        for (String m : found(code, "\\b(Thread|Runtime|Object|Random|Map|Set|Optional|Stream|Character|Boolean|Double|Float)\\b")) {
            holds(4, "the class " + m, false);
        }
        for (String m : found(code, "\\.(equals|hashCode|toString|getClass|values|stream|format|split)\\(")) {
            holds(6, "a call of " + m, false);
        }
        holds(10, "a text joined by +", !code.contains("\"\" +") && !code.contains("+ \"\""));
        holds(12, "an object is made outside a constructor or a field",
            found(code, "(?m)^ {12,}.*\\b(new \\w+[(\\[])").size() == found(code, "(?m)^ {12}marked\\w+\\[i\\] = (new \\w+\\()").size());
    }

    private static List<String> found(String code, String pattern) {
        List<String> all = new ArrayList<>();
        Matcher m = Pattern.compile(pattern).matcher(code);
        while (m.find()) {
            all.add(m.group(1));
        }
        return all;
    }

    private static void methods(String code) {
        String[] lines = code.split("\n");
        Pattern head = Pattern.compile("^( {4}| {8})(?!return|else)[\\w\\[\\]]+ .*\\) \\{$|^( {4}| {8})\\w+\\(.*\\) \\{$");
        int longest = 0;
        int many = 0;
        for (int i = 0; i < lines.length; i++) {
            Matcher m = head.matcher(lines[i]);
            if (m.find()) {
                String indent = m.group(1) != null ? m.group(1) : m.group(2);
                int end = i;
                while (!lines[end].equals(indent + "}")) {
                    end++;
                }
                if (!lines[i].trim().startsWith("if") && !lines[i].trim().startsWith("for")) {
                    longest = Math.max(longest, end - i + 1);
                    many++;
                }
            }
        }
        holds(11, "a method of " + longest + " lines", longest <= 60);
        holds(11, "methods were found: " + many, many > 150);
    }

    private static long allocated() {
        com.sun.management.ThreadMXBean bean = (com.sun.management.ThreadMXBean) ManagementFactory.getThreadMXBean();
        return bean.getThreadAllocatedBytes(Thread.currentThread().getId());
    }

    /** All calls often, so that what one of them would make is seen above the measuring itself. */
    private static void noObjects() {
        String room = "room 9 by 7;bends 2;thing a at 1 1 worth 5 6;thing b at 8 6 worth 7 8 leg 0;thing c at 4 3 worth 1 2 big;";
        String talks = "loop 9;any 0;any 1;when value 0>3;sweep 2;night;end;move a to 3 3;end;";
        int[][] roomInts = ints(room);
        int[][] talksInts = ints(talks);
        ChalkRoom[] all = new ChalkRoom[60];
        for (int i = 0; i < all.length; i++) {
            all[i] = new ChalkRoom();
        }
        oneOfEach(new ChalkRoom(), roomInts, room.length(), talksInts, talks.length());
        long before = allocated();
        for (int i = 0; i < 180; i++) {
            oneOfEach(all[i / 3], roomInts, room.length(), talksInts, talks.length());
        }
        long bytes = allocated() - before;
        holds(12, "180 of each call made " + bytes + " bytes", bytes < 4096);
        for (ChalkRoom x : all) {
            holds(12, "the calls did something", x.told(0) == 9 && x.lived(0) >= 0 && x.status() == 0);
        }
    }

    private static int[][] ints(String text) {
        int[][] all = new int[(text.length() + 19) / 20][];
        for (int i = 0; i < all.length; i++) {
            all[i] = Texts.twenty(text, i * 20);
        }
        return all;
    }

    private static void feed(ChalkRoom x, int[][] ints) {
        for (int[] v : ints) {
            x.feed(v[0], v[1], v[2], v[3], v[4]);
        }
    }

    private static long oneOfEach(ChalkRoom x, int[][] room, int n, int[][] talks, int m) {
        feed(x, room);
        x.room(n);
        feed(x, talks);
        long sum = x.talks(m) + x.status() + x.top() + x.bottom() + x.fault(0) + x.mark();
        sum += (x.tray(0, 0, 60) ? 1 : 0) + (x.tray(1, 0, 60) ? 1 : 0) + (x.write(0, 0, 5) ? 1 : 0) + x.read(0, 0);
        sum += (x.pour(0, 0, 1, 5, 50) ? 1 : 0) + x.told(3) + x.line(2) + x.thing(1, 4) + x.on(1, 1) + x.land(0, 0);
        for (int land = 0; land < 2; land++) {
            sum += x.boards(land) + x.value(land) + x.things(land) + (x.share(land) ? 1 : 0) + x.envy(land) + x.border(land);
            sum += x.strongest(land) + x.least(land) + x.wanted(land) + x.islands(land) + x.mainland(land) + x.passes(land, 0, 1);
            sum += x.steps(land, 0, 1) + x.strait(land) + x.bridge(land) + x.bridged(land) + x.give(land, 20) + x.giveIn(land, 9, 6);
            sum += x.ask(land, 20) + x.askIn(land, 9, 6) + x.price(land, 9) + (x.mean(land, 5, 20) ? 1 : 0);
        }
        sum += x.fair() + x.chalk() + x.bulges() + x.cede(1, 1, 2) + x.night() + x.sweep(3) + (x.move(0, 7, 2) ? 1 : 0);
        sum += (x.leg(0, 1) ? 1 : 0) + (x.bends(3) ? 1 : 0) + (x.draw(1) ? 1 : 0) + x.copy(1) + x.island(2, 2) + x.joined(0, 0, 8, 6);
        sum += x.reach(1) + x.peace(1, 2) + x.peaceIn(1, 2, 4) + x.lines(31) + x.sure(31) + x.game(3) + x.first(2) + x.live(7);
        return sum + x.lived(1) + x.undo();
    }
}
