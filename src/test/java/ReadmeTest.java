import java.lang.reflect.Method;
import java.lang.reflect.Modifier;
import java.net.URI;
import java.net.URL;
import java.net.URLClassLoader;
import java.nio.file.Files;
import java.nio.file.Path;
import java.util.ArrayList;
import java.util.Arrays;
import java.util.Comparator;
import java.util.HashMap;
import java.util.List;
import java.util.Map;
import java.util.Random;
import java.util.Set;
import java.util.TreeSet;
import java.util.function.Supplier;
import java.util.regex.Matcher;
import java.util.regex.Pattern;
import java.util.stream.Stream;
import javax.tools.SimpleJavaFileObject;
import javax.tools.ToolProvider;

/** What README.md says holds for the class as it stands: examples, calls, refusals, numbers and tests. */
public final class ReadmeTest {
    private static final Check CHECK = new Check("readme");
    private static final Map<String, Long> REFUSALS = Map.of("NONE", -1L, "BAD", -2L, "STATE", -3L, "FULL", -4L,
        "NO", -4611686018427387904L, "-11", -11L, "-12", -12L, "-13", -13L, "-14", -14L);
    private static final int[] ARGUMENTS = {Integer.MIN_VALUE, -129, -2, -1, 0, 0, 1, 1, 2, 3, 4, 5, 6, 7, 8, 9, 10, 11,
        13, 39, 40, 41, 70, 99, 100, 128, 200, 201, 999, 1000, 9998, 9999, 10000, Integer.MAX_VALUE};
    private static final int OBJECTS = 250;
    private static final int CALLS = 440;

    public static void main(String[] args) throws Exception {
        String page = Files.readString(Path.of("README.md"));
        examples(page);
        constants(page);
        Map<String, List<String>> rows = calls(page);
        refusals(rows);
        numbers(page);
        trucks(page);
        kinds(page);
        firstRule(page);
        tests(page);
        CHECK.end();
    }

    // ---- examples

    /** Each block of Java is run; a call behind which a number stands has to answer it. */
    private static void examples(String page) throws Exception {
        Matcher blocks = Pattern.compile("```java\n(.*?)```", Pattern.DOTALL).matcher(page);
        Pattern asked = Pattern.compile("(\\w+\\.\\w+\\(.*\\));\\s+// (-?\\d+)(?:$|[:;].*)");
        StringBuilder source = new StringBuilder("public final class Examples {\n");
        source.append("public static void run(java.util.List<Object[]> told) {\n");
        int told = 0;
        while (blocks.find()) {
            source.append("{\n");
            for (String line : blocks.group(1).split("\n")) {
                Matcher call = asked.matcher(line.trim());
                if (call.matches()) {
                    told++;
                    source.append("told.add(new Object[] {\"").append(call.group(1).replace("\"", "")).append("\", (long) ")
                        .append(call.group(1)).append(", ").append(call.group(2)).append("L});\n");
                } else {
                    CHECK.holds("no answer in [" + line + "]", !line.contains("//"));
                    source.append(line).append('\n');
                }
            }
            source.append("}\n");
        }
        List<Object[]> answers = run(source.append("}\n}\n").toString());
        CHECK.holds("examples: " + told, told > 40);
        CHECK.due("examples that ran", answers.size(), told);
        for (Object[] row : answers) {
            CHECK.due("example " + row[0], (Long) row[1], (Long) row[2]);
        }
    }

    private static List<Object[]> run(String source) throws Exception {
        Path dir = Files.createTempDirectory("readme");
        try {
            SimpleJavaFileObject file = new SimpleJavaFileObject(URI.create("string:///Examples.java"),
                SimpleJavaFileObject.Kind.SOURCE) {
                @Override
                public CharSequence getCharContent(boolean ignoring) {
                    return source;
                }
            };
            List<String> options = List.of("-proc:none", "-d", dir.toString(), "-cp", System.getProperty("java.class.path"));
            boolean good = ToolProvider.getSystemJavaCompiler().getTask(null, null, null, options, null, List.of(file)).call();
            CHECK.holds("the examples compile", good);
            List<Object[]> told = new ArrayList<>();
            try (URLClassLoader loader = new URLClassLoader(new URL[] {dir.toUri().toURL()})) {
                loader.loadClass("Examples").getMethod("run", List.class).invoke(null, told);
            }
            return told;
        } finally {
            try (Stream<Path> all = Files.walk(dir)) {
                all.sorted(Comparator.reverseOrder()).forEach(path -> path.toFile().delete());
            }
        }
    }

    // ---- tables

    /** The cells of each row of the table that begins with such a head. */
    private static List<List<String>> table(String page, String head) {
        List<List<String>> rows = new ArrayList<>();
        boolean inside = false;
        for (String line : page.split("\n")) {
            if (line.startsWith("| " + head + " |")) {
                inside = true;
            } else if (!line.startsWith("|")) {
                inside = false;
            } else if (inside && !line.startsWith("|---")) {
                List<String> cells = new ArrayList<>();
                for (String cell : line.substring(1, line.length() - 1).split("\\|", -1)) {
                    cells.add(cell.trim());
                }
                rows.add(cells);
            }
        }
        return rows;
    }

    private static void constants(String page) throws Exception {
        Map<String, Long> told = new HashMap<>();
        for (List<String> row : table(page, "refusal")) {
            told.put(row.get(0).replace("`", ""), Long.parseLong(row.get(1)));
        }
        CHECK.holds("the refusals " + told, told.equals(REFUSALS));
        for (java.lang.reflect.Field f : WingPort.class.getDeclaredFields()) {
            if (Modifier.isPublic(f.getModifiers())) {
                CHECK.due(f.getName(), f.getLong(null), told.getOrDefault(f.getName(), 0L));
            }
        }
    }

    /** The calls that the page tells are those of the document's face, each once: their other cells by their names. */
    private static Map<String, List<String>> calls(String page) throws Exception {
        String doc = Files.readString(Path.of("../shared/DOC.md"));
        String face = doc.substring(doc.indexOf("public WingPort();"), doc.indexOf("## Terms"));
        Set<String> promised = new TreeSet<>();
        Matcher each = Pattern.compile("public ((?:int|long) \\w+\\(.*?\\));").matcher(face);
        while (each.find()) {
            promised.add(each.group(1));
        }
        Map<String, List<String>> rows = new HashMap<>();
        Set<String> told = new TreeSet<>();
        for (List<String> row : table(page, "call")) {
            String call = row.get(0).replace("`", "");
            CHECK.holds(call + " is told once", told.add(call));
            rows.put(call.replaceAll("\\(.*", "").replaceAll(".* ", ""), row.subList(1, 3));
        }
        CHECK.holds("the calls " + told + " are " + promised, told.equals(promised));
        return rows;
    }

    /** Numbers and names are the document's, and its "0 DUE" stands for DUE being 0. */
    private static void numbers(String page) throws Exception {
        String doc = Files.readString(Path.of("../shared/DOC.md"));
        String[] heads = {"state", "act", "cause"};
        int[] many = {9, 8, 9};
        for (int i = 0; i < heads.length; i++) {
            List<List<String>> rows = table(page, heads[i]);
            CHECK.due(heads[i] + "s", rows.size(), many[i]);
            for (int n = 0; n < rows.size(); n++) {
                String told = n + " " + rows.get(n).get(1);
                CHECK.holds(told, rows.get(n).get(0).equals("" + n));
                CHECK.holds(told + " is the document's", Pattern.compile("\\b" + told + "\\b").matcher(doc).find());
            }
        }
    }

    /** Without trucks of a sort just those acts stay undone that need one, or come behind such. */
    private static void trucks(String page) {
        List<List<String>> rows = table(page, "act");
        for (int sort = 0; sort < 5; sort++) {
            int undone = 0;
            for (int act = 0; act < rows.size(); act++) {
                boolean hindered = rows.get(act).get(2).startsWith("" + sort);
                for (String ahead : rows.get(act).get(3).split(" ")) {
                    hindered |= !ahead.isEmpty() && (undone >> Integer.parseInt(ahead) & 1) == 1;
                }
                undone |= hindered ? 1 << act : 0;
            }
            WingPort x = Ports.with(1, 1);
            x.set(6, 1);
            x.set(sort, 0);
            x.visit(0, 0, 20, 999);
            x.run(200);
            CHECK.due("acts without trucks of sort " + sort, x.visitTold(0, 6), 255 & ~undone);
        }
    }

    private static void kinds(String page) {
        WingPort x = new WingPort();
        List<List<String>> rows = table(page, "kind");
        CHECK.due("kinds", rows.size(), 6);
        for (int kind = 0; kind < rows.size(); kind++) {
            List<String> row = rows.get(kind);
            x.visit(kind, 1, 2, 3);
            CHECK.due("kind", kind, Integer.parseInt(row.get(0)));
            List<String> also = new ArrayList<>(Arrays.asList(row.get(2).split(" ")));
            also.add("" + kind);
            for (int other = 0; other < rows.size(); other++) {
                int due = also.contains("" + other) ? Integer.parseInt(row.get(3)) : -13;
                CHECK.due(row.get(1) + " as " + other, x.taken(kind, other), due);
            }
            for (int what = 0; what < 2; what++) {
                CHECK.due(row.get(1) + " " + what, x.kindTold(kind, what), Integer.parseInt(row.get(3 + what)));
            }
            for (int act = 0; act < 8; act++) {
                CHECK.due(row.get(1) + " act " + act, x.ticks(kind, act), Integer.parseInt(row.get(5 + act)));
            }
        }
    }

    private static void firstRule(String page) {
        Matcher text = Pattern.compile("Text 0 is `(.*?)`").matcher(page);
        CHECK.holds("text 0 is told", text.find());
        WingPort x = new WingPort();
        x.visit(0, 5, 9, 9);
        CHECK.due("text 0 is a text", Ports.text(x, text.group(1)), 1);
        for (int fog = 0; fog < 2; fog++) {
            x.set(5, fog);
            for (int tick = 0; tick < 12; tick++) {
                for (int part = 0; part < 3; part++) {
                    x.force(0);
                    long due = x.tells(0, part);
                    x.force(1);
                    CHECK.due("part " + part + " at " + x.count(0), x.tells(0, part), due);
                }
                x.run(1);
            }
        }
    }

    private static void tests(String page) throws Exception {
        Set<String> told = new TreeSet<>();
        for (List<String> row : table(page, "test")) {
            told.add(row.get(0).replace("`", "") + ".java");
        }
        Set<String> there = new TreeSet<>();
        try (Stream<Path> all = Files.list(Path.of("src/test/java"))) {
            all.map(path -> path.getFileName().toString()).filter(name -> name.endsWith("Test.java")).forEach(there::add);
        }
        CHECK.holds("the tests " + told + " are " + there, told.equals(there));
    }

    // ---- refusals

    /** Of each call, what it answers below 0 in many runs is just what its row tells. */
    private static void refusals(Map<String, List<String>> rows) throws Exception {
        Map<String, Set<Long>> found = new HashMap<>();
        List<Method> calls = new ArrayList<>();
        for (Method m : WingPort.class.getDeclaredMethods()) {
            if (Modifier.isPublic(m.getModifiers())) {
                calls.add(m);
                found.put(m.getName(), new TreeSet<>());
            }
        }
        calls.sort(Comparator.comparing(Method::getName));
        List<Supplier<WingPort>> scenes = List.of(WingPort::new, RefusalTest::busy, RefusalTest::full, RefusalTest::ended);
        Random random = new Random(10);
        for (int k = 0; k < OBJECTS * scenes.size(); k++) {
            play(scenes.get(k % scenes.size()).get(), calls, found, random);
        }
        for (Method m : calls) {
            String answers = rows.containsKey(m.getName()) ? rows.get(m.getName()).get(0) : "";
            String refused = rows.containsKey(m.getName()) ? rows.get(m.getName()).get(1) : "";
            Set<Long> told = new TreeSet<>();
            Matcher each = Pattern.compile("`(-?\\w+)`").matcher(refused);
            while (each.find()) {
                told.add(REFUSALS.getOrDefault(each.group(1), 0L));
            }
            if (answers.contains("-1*")) {
                told.add(-1L);
            }
            Set<Long> seen = found.get(m.getName());
            seen.removeIf(answer -> answers.contains("-100*") && answer <= -100);
            seen.removeIf(answer -> answers.contains("any int*") && answer >= Integer.MIN_VALUE);
            CHECK.holds("below 0 " + m.getName() + " answers " + seen + ", told is " + told, seen.equals(told));
        }
    }

    private static void play(WingPort x, List<Method> calls, Map<String, Set<Long>> found, Random random) throws Exception {
        for (int k = 0; k < CALLS; k++) {
            Method m = calls.get(random.nextInt(calls.size()));
            Object[] values = new Object[m.getParameterCount()];
            for (int i = 0; i < values.length; i++) {
                int value = ARGUMENTS[random.nextInt(ARGUMENTS.length)];
                value = random.nextInt(3) == 0 ? random.nextInt(4) : value;
                values[i] = m.getParameterTypes()[i] == long.class ? (Object) (long) value : (Object) value;
            }
            long answer = ((Number) m.invoke(x, values)).longValue();
            if (answer < 0) {
                found.get(m.getName()).add(answer);
            }
        }
    }
}
