import java.io.IOException;
import java.lang.reflect.Constructor;
import java.lang.reflect.Field;
import java.lang.reflect.Method;
import java.lang.reflect.Modifier;
import java.nio.file.Files;
import java.nio.file.Path;
import java.util.Set;
import java.util.TreeSet;
import java.util.regex.Matcher;
import java.util.regex.Pattern;

/** The face that the document shows, and the words that LANGUAGE.md rules out. */
public final class FaceTests {
    static final String FACE = """
        streets(int) way(int,int,boolean) far(int,int) man(int,int,int,int,int,int,int) about(int,int)
        shy(int,boolean) where(int,int) at(int) tide() pass(int) walk(int,int) run(int)
        paper(int,int,int,int,int,int,int,int,int) cover(int,int,int) same(int,int) shown(int,int) act(int)
        sign(int,int) fault(int) force(int) may(int,int) mayTruly(int) take(int,int) taking(int,int) wronged()
        wrongedMan(int) letGo(int) quiet() heard(int) tender(int,int) met(int,int) laid(int,int,int,int)
        ship(int,int,int,int) of(int,int) spare(int,int) board(int,int) turn(int,int) notAshore(int,int)
        taken(int,int) fleet(int) sail(int) comeHome(int) ticket(int,int,int) sell(int,int,int) pay(int,int)
        ticketOf(int,int) purse(int) wages(int,boolean) count(int)""";
    static final String[] RULED_OUT = {"\\bthrow\\b", "\\btry\\b", "\\bcatch\\b", "\\bsynchronized\\b", "\\bassert\\b",
        "->", "::", "Exact\\(", "\\bSystem\\.(?!arraycopy)", "\\bimport (?!java\\.util\\.(Arrays|ArrayList|List);)",
        "\\bpackage\\b", "\\bstatic \\{", "\\.hashCode\\(", "\\.toString\\(", "\\bObject\\b", "\\bprotected\\b",
        "\\bMap\\b", "\\bOptional\\b", "\\bString\\.format", "\\bRandom\\b"};
    private static int wrong = 0;

    private static void expect(boolean is, String what) {
        if (!is) {
            wrong++;
            System.out.println(what);
        }
    }

    private static String signature(Method m) {
        StringBuilder s = new StringBuilder(m.getName()).append('(');
        for (Class<?> type : m.getParameterTypes()) {
            s.append(s.charAt(s.length() - 1) == '(' ? "" : ",").append(type.getName());
        }
        return s.append(')').toString();
    }

    private static void face() {
        Set<String> shown = new TreeSet<>();
        Set<String> names = new TreeSet<>();
        for (Method m : PressedMen.class.getDeclaredMethods()) {
            if (Modifier.isPublic(m.getModifiers())) {
                shown.add(signature(m));
                names.add(m.getName());
                expect(m.getReturnType() == int.class, m.getName() + " does not answer an int");
                expect(!Modifier.isStatic(m.getModifiers()), m.getName() + " is static");
            } else {
                expect(Modifier.isPrivate(m.getModifiers()), m.getName() + " is neither public nor private");
            }
        }
        expect(shown.equals(new TreeSet<>(Set.of(FACE.trim().split("\\s+")))), "the face is another: " + shown);
        expect(Modifier.isFinal(PressedMen.class.getModifiers()), "the class is not final");
        Constructor<?>[] made = PressedMen.class.getDeclaredConstructors();
        expect(made.length == 1 && made[0].getParameterCount() == 0, "the constructors are others");
        for (Field f : PressedMen.class.getDeclaredFields()) {
            boolean constant = Set.of("UNKNOWN", "BAD", "STATE", "FULL", "NONE").contains(f.getName());
            expect(constant == Modifier.isPublic(f.getModifiers()), f.getName() + " is public, or is not");
            expect(constant || Modifier.isPrivate(f.getModifiers()), f.getName() + " is not private");
            expect(!Modifier.isStatic(f.getModifiers()) || Modifier.isFinal(f.getModifiers()),
                    f.getName() + " is static and not final");
        }
        for (Class<?> inner : PressedMen.class.getDeclaredClasses()) {
            expect(Modifier.isStatic(inner.getModifiers()), inner.getName() + " is not static");
            expect(inner.getDeclaredFields().length <= 20, inner.getName() + " has many fields");
            for (Method m : inner.getDeclaredMethods()) {
                expect(!names.contains(m.getName()), inner.getName() + " has a public one's " + m.getName());
                expect(m.getParameterCount() <= 7, m.getName() + " takes more than seven");
            }
        }
        for (Method m : PressedMen.class.getDeclaredMethods()) {
            expect(Modifier.isPublic(m.getModifiers()) || !names.contains(m.getName()),
                    "a private method bears the name of a public one: " + m.getName());
        }
    }

    private static void words() throws IOException {
        String source = Files.readString(Path.of("src/main/java/PressedMen.java"));
        String code = source.replaceAll("(?s)/\\*.*?\\*/", "").replaceAll("//[^\n]*", "");
        for (String word : RULED_OUT) {
            Matcher m = Pattern.compile(word).matcher(code);
            expect(!m.find(), "ruled out, but there: " + word);
        }
        for (int i = 0; i < source.length(); i++) {
            expect(source.charAt(i) < 128, "a sign that is not plain, at " + i);
        }
        int begun = 0;
        String[] lines = source.split("\n");
        for (int i = 0; i < lines.length; i++) {
            if (lines[i].matches(" {4,8}(public|private|static|boolean|int|void|[A-Z]\\w*)\\b.*\\{")) {
                begun = i;
            }
            if (lines[i].matches(" {4,8}\\}") && !lines[begun].contains("class")) {
                expect(i - begun <= 60, "a long method, from line " + (begun + 1));
            }
        }
    }

    public static void main(String[] args) throws IOException {
        face();
        words();
        System.out.println("the face and the words: " + wrong + " wrong");
        if (wrong != 0) {
            System.exit(1);
        }
    }
}
