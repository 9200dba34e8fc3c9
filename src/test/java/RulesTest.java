import java.lang.management.ManagementFactory;
import java.lang.reflect.Constructor;
import java.lang.reflect.Field;
import java.lang.reflect.Method;
import java.lang.reflect.Modifier;
import java.nio.file.Files;
import java.nio.file.Path;
import java.util.ArrayList;
import java.util.HashSet;
import java.util.List;
import java.util.Set;
import java.util.TreeSet;
import java.util.regex.Matcher;
import java.util.regex.Pattern;

/** The rules of LANGUAGE.md that can be seen from outside: the face, the words of the source, what a run makes. */
public final class RulesTest {
    private static final Check check = new Check("RulesTest");
    private static final String FACE = "feed(int) congress() fault() told(int) doll(int,int) court(int,int) post(int,int)"
        + " mix(int,int) lay(int,boolean) mask(int,int) audience() year(int) drift(int) undo() warm(int,int) warmest(int)"
        + " first(int,int) swaps(int) close(int) look(int,int) agreed(int) agenda(int,int) agendaFor(int) wanted(int)"
        + " know(int,int) parcels(int,int) write(int,int) tear() judge() seed(int) keep(int) goBack(int)";

    public static void main(String[] args) throws Exception {
        constants();
        face();
        String code = code(Files.readString(Path.of("src/main/java/DollCongress.java")));
        words(code);
        lengths(code);
        oddArguments();
        room();
        check.end();
    }

    private static void constants() {
        check.due("NONE", DollCongress.NONE, -1);
        check.due("UNKNOWN", DollCongress.UNKNOWN, -1000000001);
        check.due("OUTSIDE", DollCongress.OUTSIDE, -1000000002);
        check.due("NOT", DollCongress.NOT, -1000000003);
        check.due("FULL", DollCongress.FULL, -1000000004);
    }

    private static void face() {
        Set<String> names = new HashSet<>();
        Set<String> open = new TreeSet<>();
        for (Method m : DollCongress.class.getDeclaredMethods()) {
            if (Modifier.isPublic(m.getModifiers())) {
                StringBuilder said = new StringBuilder(m.getName()).append('(');
                for (Class<?> type : m.getParameterTypes()) {
                    said.append(said.charAt(said.length() - 1) == '(' ? "" : ",").append(type);
                }
                open.add(said.append(')').toString());
                names.add(m.getName());
                check.holds(m + " answers int", m.getReturnType() == int.class);
            } else {
                check.holds(m + " is private", Modifier.isPrivate(m.getModifiers()) || m.isSynthetic());
            }
        }
        check.holds("the face is " + open, open.equals(new TreeSet<>(List.of(FACE.split(" ")))));
        int constants = 0;
        for (Field f : DollCongress.class.getDeclaredFields()) {
            constants += Modifier.isPublic(f.getModifiers()) ? 1 : 0;
            check.holds(f + " is public or private", (f.getModifiers() & (Modifier.PUBLIC | Modifier.PRIVATE)) != 0);
        }
        check.due("public constants", constants, 5);
        Constructor<?>[] made = DollCongress.class.getDeclaredConstructors();
        check.due("constructors", made.length, 1);
        check.holds("final", Modifier.isFinal(DollCongress.class.getModifiers()));
        int classes = 1;
        for (Class<?> inside : DollCongress.class.getDeclaredClasses()) {
            classes++;
            check.holds(inside + " is static", Modifier.isStatic(inside.getModifiers()));
            check.holds(inside + " has few fields", inside.getDeclaredFields().length <= 20);
            for (Method m : inside.getDeclaredMethods()) {
                check.holds(m + " bears no name of the face", !names.contains(m.getName()));
                check.holds(m + " has few parameters", m.getParameterCount() <= 7);
            }
        }
        check.holds("at most twelve classes", classes <= 12);
    }

    private static String code(String source) {
        return source.replaceAll("(?s)/\\*.*?\\*/", "").replaceAll("//[^\n]*", "");
    }

    private static void words(String code) {
        for (String word : List.of("throw", "throws", "try", "catch", "synchronized", "assert", "package", "protected",
                "Object", "Exact", "System.out", "currentTimeMillis", "nanoTime", "Random", "Thread", "hashCode", "toString")) {
            Matcher m = Pattern.compile("\\b" + Pattern.quote(word) + "\\b").matcher(code);
            check.holds("no " + word, !m.find());
        }
        check.holds("no lambda, no method reference", !code.contains("->") && !code.contains("::"));
        check.holds("no text joined", !code.contains("\""));
        Set<String> used = new TreeSet<>();
        Matcher m = Pattern.compile("\\b(Integer|Math|Arrays|System|Long|String|StringBuilder)\\b\\.?(\\w*)").matcher(code);
        while (m.find()) {
            used.add(m.group(1) + "." + m.group(2));
        }
        used.removeAll(List.of("Integer.bitCount", "Math.min", "Math.max", "Arrays.fill", "System.arraycopy", "Arrays."));
        check.holds("no other library: " + used, used.isEmpty());
        List<String> imports = new ArrayList<>();
        Matcher i = Pattern.compile("import [^;]*;").matcher(code);
        while (i.find()) {
            imports.add(i.group());
        }
        check.holds("imports are " + imports, imports.equals(List.of("import java.util.Arrays;")));
    }

    private static void lengths(String code) {
        String[] lines = code.split("\n");
        int start = -1;
        String indent = "";
        for (int i = 0; i < lines.length; i++) {
            Matcher m = Pattern.compile("^( {4}| {8})[\\w\\[\\] ]+\\([^;]*\\) \\{$").matcher(lines[i]);
            if (m.find()) {
                start = i;
                indent = m.group(1);
            }
            if (start >= 0 && lines[i].equals(indent + "}")) {
                check.holds("short: " + lines[start].trim(), i - start <= 60);
                start = -1;
            }
        }
    }

    /** No call throws, whatever it is given, with or without a congress. */
    private static void oddArguments() throws Exception {
        int[] odd = {Integer.MIN_VALUE, -1000000001, -64, -2, -1, 0, 1, 2, 7, 8, 31, 32, 63, 64, 100, 255, Integer.MAX_VALUE};
        String[] texts = {"", "c1,1;", "c9,9,9,9,9,9,9;d0 0 0;d1 1 1;d2 2 2;d3 3 3;d0 4 4;d1 5 5;d2 6 6;d3 0 63;s63;q63;"};
        for (String text : texts) {
            for (Method m : DollCongress.class.getDeclaredMethods()) {
                if (Modifier.isPublic(m.getModifiers()) && !m.getName().equals("congress")) {
                    oddCalls(m, Check.made(text), odd);
                }
            }
        }
    }

    private static void oddCalls(Method m, DollCongress x, int[] odd) throws Exception {
        int count = m.getParameterCount();
        for (int a : odd) {
            for (int b : odd) {
                Object second = count > 1 && m.getParameterTypes()[1] == boolean.class ? (Object) (b > 0) : (Object) b;
                Object[] given = count == 0 ? new Object[0] : count == 1 ? new Object[] {a} : new Object[] {a, second};
                m.invoke(x, given);
            }
        }
        check.holds("no throw", true);
    }

    /** Rows are made once: a full life of dear calls makes next to nothing beside the object itself. */
    private static void room() {
        com.sun.management.ThreadMXBean bean = (com.sun.management.ThreadMXBean) ManagementFactory.getThreadMXBean();
        DollCongress x = Check.made("c9,8,7,6,5,4,3;d2 0 1;d2 1 2;d2 2 4;d2 3 8;d2 4 16;d2 5 32;d3 6 63;d1 6 0;s63;");
        long sum = life(x);
        long thread = Thread.currentThread().getId();
        long before = bean.getThreadAllocatedBytes(thread);
        sum += life(x);
        long made = bean.getThreadAllocatedBytes(thread) - before;
        check.holds("a life of calls makes " + made + " bytes (" + sum + ")", made < 20000);
    }

    private static long life(DollCongress x) {
        long sum = 0;
        for (int i = 0; i < 30; i++) {
            sum += x.mix(i % 8, (i + 3) % 8) + x.swaps(0) + x.swaps(1) + x.wanted(-1) + x.wanted(6) + x.drift(3) + x.undo();
            sum += x.told(12) + x.told(13) + x.told(14) + x.court(3, 4) + x.first(0, 99) + x.keep(0) + x.goBack(0);
        }
        return sum;
    }
}
