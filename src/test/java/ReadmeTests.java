import java.io.File;
import java.io.IOException;
import java.lang.reflect.Method;
import java.nio.file.Files;
import java.nio.file.Path;
import java.util.HashMap;
import java.util.Map;
import java.util.Set;
import java.util.TreeSet;
import java.util.regex.Matcher;
import java.util.regex.Pattern;

/** What README.md says is so: its example is run, line by line, and its lists are looked up. */
public final class ReadmeTests {
    private static final Pattern CALL = Pattern.compile("(?:int (\\w+) = )?port\\.(\\w+)\\((.*)\\)");
    private static final Pattern DUE = Pattern.compile("//\\s*(-?\\d+|[A-Z]+): .*");
    private static int wrong = 0;
    private static int asked = 0;

    private static void expect(boolean is, String what) {
        if (!is) {
            wrong++;
            System.out.println(what);
        }
    }

    private static int constant(String name) throws ReflectiveOperationException {
        return PressedMen.class.getField(name).getInt(null);
    }

    /** The lines between the fence of that kind and the next one. */
    private static String[] block(String page, String kind) {
        int from = page.indexOf("```" + kind + "\n");
        int to = from < 0 ? -1 : page.indexOf("```", from + 3);
        expect(to > 0, "no block of " + kind);
        return to > 0 ? page.substring(page.indexOf('\n', from) + 1, to).split("\n") : new String[0];
    }

    // ---- the example

    private static void example(String page) throws ReflectiveOperationException {
        PressedMen port = null;
        Map<String, Integer> known = new HashMap<>();
        for (String line : block(page, "java")) {
            int comment = line.indexOf("//");
            String code = (comment < 0 ? line : line.substring(0, comment)).trim();
            if (code.equals("PressedMen port = new PressedMen();")) {
                port = new PressedMen();
                continue;
            }
            expect(code.endsWith(";"), "no statement: " + line);
            int answer = 0;
            for (String statement : code.split(";")) {
                answer = call(port, statement.trim(), known);
            }
            judge(line, answer);
        }
        expect(asked >= 20, "the example says only " + asked + " answers");
    }

    private static int call(PressedMen port, String statement, Map<String, Integer> known)
            throws ReflectiveOperationException {
        Matcher m = CALL.matcher(statement);
        if (!m.matches()) {
            expect(false, "no call: " + statement);
            return 0;
        }
        String[] words = m.group(3).isEmpty() ? new String[0] : m.group(3).split(", ");
        Object[] given = new Object[words.length];
        for (int i = 0; i < words.length; i++) {
            given[i] = value(words[i], known);
        }
        int answer = (Integer) method(m.group(2), given.length).invoke(port, given);
        if (m.group(1) != null) {
            expect(answer >= 0, "refused: " + statement);
            known.put(m.group(1), answer);
        }
        return answer;
    }

    private static Method method(String name, int parameters) {
        for (Method m : PressedMen.class.getMethods()) {
            if (m.getName().equals(name) && m.getParameterCount() == parameters) {
                return m;
            }
        }
        throw new IllegalStateException("there is no " + name + " with " + parameters);
    }

    private static Object value(String word, Map<String, Integer> known) throws ReflectiveOperationException {
        if (word.equals("true") || word.equals("false")) {
            return word.equals("true");
        }
        if (word.startsWith("'")) {
            return (int) word.charAt(1);
        }
        if (word.startsWith("PressedMen.")) {
            return constant(word.substring("PressedMen.".length()));
        }
        Integer before = known.get(word);
        return before != null ? before : Integer.valueOf(word);
    }

    private static void judge(String line, int answer) throws ReflectiveOperationException {
        Matcher m = DUE.matcher(line);
        if (!m.find()) {
            expect(answer >= 0, "refused: " + line);
            return;
        }
        asked++;
        String due = m.group(1);
        int want = Character.isLetter(due.charAt(0)) ? constant(due) : Integer.parseInt(due);
        expect(answer == want, "answered " + answer + ": " + line);
    }

    // ---- the lists

    private static void refusals(String page) throws ReflectiveOperationException {
        for (String name : new String[] {"UNKNOWN", "BAD", "STATE", "FULL", "NONE"}) {
            expect(page.contains("`" + name + "` (" + constant(name) + ")"), "another number, or none: " + name);
        }
    }

    private static void places(String page) {
        expect(page.contains("0 to 7 a street, 10 to 19 a ship (10 and its number), 20 the tender, 21 sick, 22 inland,"
                + " 23 run."), "the places are not told");
        PressedMen x = new PressedMen();
        x.streets(8);
        for (int i = 0; i < 10; i++) {
            x.ship(1, 20, 0, 0);
        }
        for (int place = -1; place <= 24; place++) {
            boolean is = (place >= 0 && place <= 7) || (place >= 10 && place <= 23);
            expect(x.at(place) == (is ? 0 : PressedMen.BAD), "place " + place);
        }
        x.man(20, 0, 0, 60, 0, 0, 7);
        x.man(20, 0, 0, 60, 0, 0, 0);
        x.shy(1, true);
        expect(x.at(7) == 1, "a street");
        x.board(0, 9);
        expect(x.where(0, 0) == 19, "a ship");
        x.take(0, PressedMen.NONE);
        expect(x.where(0, 0) == 20, "the tender");
        x.tender(0, 0);
        x.tender(1, 100);
        x.way(0, 7, true);
        x.man(20, 0, 0, 60, 0, 0, 7);
        x.take(2, PressedMen.NONE);
        x.pass(1);
        expect(x.where(0, 1) == 21, "sick");
        expect(x.where(1, 1) == 22, "inland");
        x.run(0);
        expect(x.where(0, 1) == 23, "run");
    }

    private static void tests(String page) {
        Set<String> there = new TreeSet<>();
        File[] files = new File("src/test/java").listFiles();
        for (File file : files == null ? new File[0] : files) {
            there.add(file.getName().replace(".java", ""));
        }
        Set<String> named = new TreeSet<>();
        Matcher m = Pattern.compile("(?m)^- `(\\w+)`: ").matcher(page);
        while (m.find()) {
            named.add(m.group(1));
        }
        expect(named.equals(there), "named are " + named + ", there are " + there);
        expect(new File(".ci/run").canExecute(), ".ci/run can't be run");
        for (String line : block(page, "sh")) {
            for (String word : line.split(" ")) {
                expect(!word.endsWith(".java") || new File(word).isFile(), "there is no " + word);
            }
        }
    }

    public static void main(String[] args) throws IOException, ReflectiveOperationException {
        String page = Files.readString(Path.of("README.md"));
        example(page);
        refusals(page);
        places(page);
        tests(page);
        System.out.println(asked + " answers that README.md tells: " + wrong + " wrong");
        if (wrong != 0) {
            System.exit(1);
        }
    }
}
