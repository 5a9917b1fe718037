import java.lang.reflect.Method;
import java.util.ArrayList;
import java.util.HashMap;
import java.util.List;
import java.util.Map;

/** What is refused: beyond both ends of every parameter, in the order that is told, and nothing is changed by it. */
public final class RefusalTests {
    private static final int NONE = -9;
    private static final Map<String, Integer> REFUSALS = Map.of("UNKNOWN", -1, "BAD", -2, "STATE", -3, "FULL", -4);
    private static final Map<String, Method> CALLS = new HashMap<>();
    private static int wrong = 0;
    private static int asked = 0;

    private static final int MEN = 8, SHIPS = 3, PAPERS = 3, ACTS = 3, TAKINGS = 2, TICKETS = 3;

    /** A call that is granted, on which port; then for each number it takes: what may be given, what refuses others.
        A + behind says that NONE may be given too. */
    private static final String[] ENDS = {
        "new streets 2 | 1..8 BAD",
        "port way 0 1 true | 0..3 UNKNOWN | 0..3 UNKNOWN",
        "port far 0 1 | 0..3 UNKNOWN | 0..3 UNKNOWN",
        "port man 20 1 1 60 1 1 0 | 10..60 BAD | 0..3 BAD | 0..3 BAD | 50..80 BAD | 0..5 BAD | 0..40 BAD"
            + " | 0..3 UNKNOWN",
        "port about 0 0 | 0..7 UNKNOWN | 0..7 BAD",
        "port shy 0 true | 0..7 UNKNOWN",
        "port where 0 0 | 0..7 UNKNOWN | 0..2 BAD",
        "new where 0 0 | 0..-1 UNKNOWN",
        "port at 20 | 20..23 BAD 0..3 10..12",
        "new at 20 | 20..23 BAD 0..3",
        "port pass 1 | 1..60 BAD",
        "port walk 0 1 | 0..7 UNKNOWN | 0..3 UNKNOWN",
        "port run 0 | 0..7 UNKNOWN",
        "port paper 0 1 1 20 25 60 62 3 9 | 0..7 UNKNOWN | 0..3 BAD + | 0..3 BAD + | 0..25 BAD | 20..99 BAD"
            + " | 0..62 BAD | 60..99 BAD | 0..9 BAD | 3..899 BAD",
        "port cover 0 0 0 | 0..2 UNKNOWN | 0..7 UNKNOWN | 0..899 BAD",
        "port same 0 0 | 0..2 UNKNOWN | 0..899 BAD",
        "port shown 0 0 | 0..2 UNKNOWN | 0..899 BAD",
        "port act 0 | 0..899 BAD",
        "port sign 0 33 | 0..2 UNKNOWN | 33..126 BAD",
        "port fault 0 | 0..2 UNKNOWN",
        "port force 0 | 0..899 BAD",
        "port may 0 0 | 0..7 UNKNOWN | 0..2 UNKNOWN +",
        "port mayTruly 0 | 0..7 UNKNOWN",
        "port take 0 0 | 0..7 UNKNOWN | 0..2 UNKNOWN +",
        "port taking 0 0 | 0..1 UNKNOWN | 0..5 BAD",
        "port letGo 1 | 0..7 UNKNOWN",
        "port heard 0 | 0..3 UNKNOWN",
        "port tender 0 0 | 0..1 BAD | 0..40 BAD",
        "port tender 1 0 | 0..1 BAD | 0..100 BAD",
        "port met 1 1 | 1..2 BAD | 1..3 BAD",
        "port laid 1 1 0 0 | 1..2 BAD | 1..3 BAD | 0..0 BAD | 0..0 BAD",
        "port laid 2 2 0 0 | 1..2 BAD | 1..3 BAD | 0..1 BAD | 0..1 BAD",
        "port laid 2 3 1 2 | 2..2 BAD | 3..3 BAD | 0..1 BAD | 0..2 BAD",
        "port ship 0 20 0 0 | 0..1 BAD | 1..20 BAD | 0..20 BAD | 0..20 BAD",
        "port ship 1 7 3 0 | 0..1 BAD | 3..20 BAD | 0..7 BAD | 0..20 BAD",
        "port of 0 0 | 0..2 UNKNOWN | 0..6 BAD",
        "port spare 1 0 | 0..2 UNKNOWN | 0..3 BAD",
        "port board 0 0 | 0..7 UNKNOWN | 0..2 UNKNOWN",
        "port turn 1 0 | 0..7 UNKNOWN | 0..2 UNKNOWN",
        "port notAshore 0 0 | 0..7 UNKNOWN | 0..2 BAD",
        "port taken 0 0 | 0..1 BAD | 0..3 BAD",
        "port fleet 0 | 0..3 BAD",
        "port sail 0 | 0..2 UNKNOWN",
        "port comeHome 2 | 0..2 UNKNOWN",
        "port ticket 0 1 1 | 0..7 UNKNOWN | 1..99 BAD | 1..50 BAD",
        "port sell 0 0 1 | 0..2 UNKNOWN | 0..9 UNKNOWN | 1..100 BAD",
        "port pay 0 0 | 0..2 UNKNOWN | 0..9 UNKNOWN +",
        "port ticketOf 0 3 | 0..2 UNKNOWN | 0..3 BAD",
        "port purse 0 | 0..9 UNKNOWN",
        "port wages 0 true | 0..7 UNKNOWN",
        "port count 0 | 0..7 BAD",
    };

    /** A port, a call, and what is told first of all that refuses it there. */
    private static final String[] REFUSED = {
        "port streets 0 BAD", "port streets 9 BAD", "port streets 1 STATE", "port streets 4 STATE",
        "port streets 8 STATE",
        "port way 4 4 true UNKNOWN", "port way -1 -1 false UNKNOWN", "port way 0 4 false UNKNOWN",
        "port way 1 1 true BAD", "port way 0 0 false BAD", "port far 4 4 UNKNOWN",
        "port man 9 4 4 81 6 41 4 UNKNOWN", "port man 9 0 0 60 0 0 0 BAD",
        "men man 9 0 0 60 0 0 4 UNKNOWN", "men man 20 0 0 60 0 0 -1 UNKNOWN", "men man 61 0 0 60 0 0 0 BAD",
        "men man 20 0 0 60 0 0 0 FULL",
        "port about 8 8 UNKNOWN", "port about 0 8 BAD", "port shy 8 true UNKNOWN", "port shy -1 false UNKNOWN",
        "port where 8 3 UNKNOWN", "port where 0 3 BAD", "port at 8 BAD", "port at 4 BAD", "port at 13 BAD",
        "port pass 0 BAD", "port pass 61 BAD", "late pass 0 BAD", "late pass 61 BAD", "late pass 1 FULL",
        "late pass 60 FULL",
        "port walk 8 4 UNKNOWN", "port walk 1 4 UNKNOWN", "port walk 8 0 UNKNOWN", "port walk 1 0 STATE",
        "port walk 2 0 STATE", "port walk 3 0 STATE", "port walk 4 0 STATE", "port walk 5 0 STATE",
        "port walk 7 0 STATE", "port run 8 UNKNOWN", "port run 7 STATE",
        "port paper 8 4 4 9 8 9 8 9 8 UNKNOWN", "port paper 0 4 0 9 9 9 9 9 9 BAD",
        "port paper 0 0 0 9 8 9 9 9 9 BAD", "port paper 0 0 0 9 9 9 8 9 9 BAD", "port paper 0 0 0 9 9 9 9 9 8 BAD",
        "papers paper 8 0 0 9 9 9 9 9 9 UNKNOWN", "papers paper 0 0 4 9 9 9 9 9 9 BAD",
        "papers paper 0 0 0 9 9 9 9 9 9 FULL",
        "port cover 3 8 900 UNKNOWN", "port cover 0 8 900 UNKNOWN", "port cover 3 0 900 UNKNOWN",
        "port cover 0 0 900 BAD", "port same 3 900 UNKNOWN", "port same 0 900 BAD",
        "port shown 3 900 UNKNOWN", "port shown 0 900 BAD", "port shown -9 0 UNKNOWN",
        "port act 900 BAD", "acts act 900 BAD", "acts act -1 BAD", "acts act 0 FULL",
        "port sign 3 32 UNKNOWN", "port sign 0 32 BAD", "port sign 0 127 BAD", "signs sign 8 32 UNKNOWN",
        "signs sign 0 127 BAD", "signs sign 0 112 FULL", "signs sign 0 33 FULL",
        "port fault 3 UNKNOWN", "port force 900 BAD",
        "port may 8 3 UNKNOWN", "port may 0 3 UNKNOWN", "port may 8 -9 UNKNOWN", "port mayTruly 8 UNKNOWN",
        "port take 8 3 UNKNOWN", "port take 1 3 UNKNOWN", "port take 0 3 UNKNOWN", "port take 8 -9 UNKNOWN",
        "port take 1 -9 STATE", "port take 2 0 STATE", "port take 3 0 STATE", "port take 5 0 STATE",
        "port take 6 0 STATE", "port take 7 0 STATE", "takings take 8 -9 UNKNOWN", "takings take 0 3 UNKNOWN",
        "takings take 1 -9 STATE", "takings take 0 -9 FULL", "takings take 4 0 FULL",
        "port taking 2 6 UNKNOWN", "port taking 0 6 BAD",
        "port letGo 8 UNKNOWN", "port letGo 0 STATE", "port letGo 5 STATE", "port letGo 6 STATE", "port letGo 7 STATE",
        "port heard 4 UNKNOWN", "port tender 0 41 BAD", "port tender 1 101 BAD", "port tender 2 1 BAD",
        "port tender 0 -1 BAD", "port tender 1 -1 BAD",
        "port met 0 1 BAD", "port met 1 4 BAD", "port laid 1 1 1 0 BAD", "port laid 1 1 0 1 BAD",
        "port ship 2 1 0 0 BAD", "port ship 0 1 2 0 BAD", "ships ship 0 21 0 0 BAD", "ships ship 0 1 0 0 FULL",
        "port of 3 7 UNKNOWN", "port of 0 7 BAD",
        "port spare 3 4 UNKNOWN", "port spare 0 4 BAD", "port spare 2 -1 BAD", "port spare 0 0 STATE",
        "port spare 2 0 STATE",
        "port board 8 3 UNKNOWN", "port board 1 3 UNKNOWN", "port board 8 2 UNKNOWN", "port board 1 0 STATE",
        "port board 2 0 STATE", "port board 3 1 STATE", "port board 3 0 STATE", "port board 5 0 STATE",
        "port board 6 0 STATE", "port board 7 0 STATE", "port board 0 2 STATE", "crowd board 1 0 STATE",
        "crowd board 11 0 UNKNOWN", "crowd board 0 0 FULL",
        "port turn 8 3 UNKNOWN", "port turn 0 3 UNKNOWN", "port turn 8 2 UNKNOWN", "port turn 0 0 STATE",
        "port turn 2 0 STATE", "port turn 5 0 STATE", "port turn 6 0 STATE", "port turn 7 0 STATE",
        "port turn 3 0 STATE", "port turn 1 2 STATE", "port turn 5 2 STATE", "crowd turn 0 0 STATE",
        "crowd turn 3 0 STATE", "crowd turn 11 0 UNKNOWN", "crowd turn 1 0 FULL", "crowd turn 4 0 FULL",
        "port notAshore 8 3 UNKNOWN", "port notAshore 0 3 BAD",
        "port taken 2 0 BAD", "port taken 4 0 BAD", "port taken 8 0 BAD", "port taken 3 0 BAD", "port taken 1 4 BAD",
        "port taken 2 4 BAD", "port fleet 4 BAD",
        "port sail 3 UNKNOWN", "port sail 0 STATE", "port sail 2 STATE", "port comeHome 3 UNKNOWN",
        "port comeHome 0 STATE",
        "port ticket 8 0 0 UNKNOWN", "port ticket 0 0 1 BAD", "port ticket 0 1 51 BAD", "tickets ticket 8 1 1 UNKNOWN",
        "tickets ticket 0 100 1 BAD", "tickets ticket 0 1 1 FULL",
        "port sell 3 10 0 UNKNOWN", "port sell 0 10 0 UNKNOWN", "port sell 3 0 0 UNKNOWN", "port sell 2 3 0 BAD",
        "port sell 1 3 101 BAD", "port sell 2 3 50 STATE", "port sell 1 3 50 STATE", "port sell 2 10 50 UNKNOWN",
        "port pay 3 10 UNKNOWN", "port pay 0 10 UNKNOWN", "port pay 3 -9 UNKNOWN", "port pay 0 -1 UNKNOWN",
        "port ticketOf 3 4 UNKNOWN", "port ticketOf 0 4 BAD", "port purse 10 UNKNOWN", "port purse -9 UNKNOWN",
        "port wages 8 true UNKNOWN", "port wages -1 false UNKNOWN", "port count 8 BAD", "port count -1 BAD",
        "new about 0 0 UNKNOWN", "new cover 0 0 0 UNKNOWN", "new sign 0 112 UNKNOWN", "new taking 0 0 UNKNOWN",
        "new of 0 0 UNKNOWN", "new ticketOf 0 0 UNKNOWN", "new taken 1 0 BAD", "new at 10 BAD",
        "new take 0 -9 UNKNOWN", "new board 0 0 UNKNOWN", "new sell 0 0 1 UNKNOWN",
        "new paper 0 0 0 0 0 0 0 0 0 UNKNOWN",
    };

    /** Ways 0 - 1 - 2, street 3 lies apart. Tide 2. Man 0 is in street 0, 1 in the tender, 2 sick, 3 in the king's
        ship 0 at home, 4 in trade's ship 1 at home, 5 in the king's ship 2 that is out, 6 inland, 7 run. */
    private static PressedMen port() {
        PressedMen x = new PressedMen();
        x.way(0, 1, true);
        x.way(1, 2, true);
        for (int man = 0; man < MEN; man++) {
            x.man(20 + man, man % 4, man % 3, 60 + man, man % 6, man, man % 3);
        }
        x.paper(0, 0, 0, 20, 25, 60, 62, 0, 30);
        x.paper(1, NONE, NONE, 0, 99, 0, 99, 0, 899);
        x.paper(5, 1, NONE, 20, 30, 60, 66, 1, 3);
        enact(x, 0, "|pa25");
        enact(x, 2, "!p");
        enact(x, 1, "&p");
        x.ship(0, 2, 1, 0);
        x.ship(1, 2, 0, 1);
        x.ship(0, 1, 0, 0);
        x.tender(0, 0);
        x.tender(1, 100);
        x.take(2, NONE);
        x.shy(6, true);
        x.pass(2);
        x.tender(0, 10);
        x.tender(1, 50);
        x.take(1, 0);
        x.board(3, 0);
        x.board(4, 1);
        x.board(5, 2);
        x.sail(2);
        x.run(7);
        x.ticket(0, 7, 7);
        x.ticket(1, 10, 10);
        x.ticket(1, 3, 3);
        x.sell(1, 3, 50);
        x.pay(1, 4);
        x.pay(2, NONE);
        return x;
    }

    private static void enact(PressedMen x, int tide, String text) {
        int act = x.act(tide);
        for (int i = 0; i < text.length(); i++) {
            x.sign(act, text.charAt(i));
        }
    }

    private static PressedMen make(String kind) {
        PressedMen x = kind.equals("new") ? new PressedMen() : port();
        switch (kind) {
            case "new":
            case "port":
                break;
            case "men":
                for (int i = MEN; i < 40; i++) {
                    x.man(20, 0, 0, 60, 0, 5, 0);
                }
                break;
            case "papers":
                for (int i = PAPERS; i < 60; i++) {
                    x.paper(0, 0, 0, 20, 20, 60, 60, 0, 0);
                }
                break;
            case "acts":
                for (int i = ACTS; i < 8; i++) {
                    x.act(0);
                }
                break;
            case "signs":
                for (int i = x.sign(0, '#'); i < 60; i++) {
                    x.sign(0, 'p');
                }
                break;
            case "takings":
                for (int i = TAKINGS; i < 60; i++) {
                    x.take(0, NONE);
                    x.letGo(0);
                }
                break;
            case "ships":
                for (int i = SHIPS; i < 10; i++) {
                    x.ship(1, 1, 0, 0);
                }
                break;
            case "tickets":
                for (int i = TICKETS; i < 40; i++) {
                    x.ticket(0, 1, 1);
                }
                break;
            case "late":
                for (int i = 0; i < 14; i++) {
                    x.pass(60);
                }
                x.pass(57);
                break;
            case "crowd":
                for (int i = 0; i < 3; i++) {
                    x.board(x.man(30, 0, 0, 60, 0, 0, 0), 0);
                }
                break;
            default:
                throw new IllegalStateException(kind);
        }
        return x;
    }

    private static int ask(PressedMen x, String name, Object[] given) throws Exception {
        return (Integer) CALLS.get(name).invoke(x, given);
    }

    private static Object[] parse(String[] words, int from, int to) {
        Object[] given = new Object[to - from];
        for (int i = from; i < to; i++) {
            boolean isTruth = words[i].equals("true") || words[i].equals("false");
            given[i - from] = isTruth ? (Object) Boolean.valueOf(words[i]) : (Object) Integer.valueOf(words[i]);
        }
        return given;
    }

    private static String told(String kind, String name, Object[] given) {
        StringBuilder s = new StringBuilder(kind).append(": ").append(name).append('(');
        for (int i = 0; i < given.length; i++) {
            s.append(i == 0 ? "" : ", ").append(given[i]);
        }
        return s.append(')').toString();
    }

    private static void expect(boolean is, String what) {
        asked++;
        if (!is) {
            wrong++;
            System.out.println(what);
        }
    }

    // ---- beyond both ends of every parameter

    private static void ends(String line) throws Exception {
        String[] parts = line.split(" \\| ");
        String[] words = parts[0].split(" ");
        Object[] granted = parse(words, 2, words.length);
        for (int i = 1; i < parts.length; i++) {
            endsOf(words[0], words[1], granted, i - 1, parts[i].split(" "));
        }
    }

    private static void endsOf(String kind, String name, Object[] granted, int which, String[] spec) throws Exception {
        int refusal = REFUSALS.get(spec[1]);
        List<int[]> spans = new ArrayList<>();
        for (int i = 0; i < spec.length; i++) {
            if (spec[i].equals("+")) {
                spans.add(new int[] {NONE, NONE});
            } else if (i != 1) {
                String[] both = spec[i].split("\\.\\.");
                spans.add(new int[] {Integer.parseInt(both[0]), Integer.parseInt(both[1])});
            }
        }
        for (int v : valuesAround(spans)) {
            boolean mayBe = false;
            for (int[] span : spans) {
                mayBe |= v >= span[0] && v <= span[1];
            }
            Object[] given = granted.clone();
            given[which] = v;
            int got = ask(make(kind), name, given);
            expect((got == refusal) != mayBe, told(kind, name, given) + " answered " + got + ", "
                    + (mayBe ? "is not to be refused so" : "due is " + refusal));
        }
    }

    /** The ends, what lies next to them, what would pass for them if numbers were cut short, and the extremes. */
    private static List<Integer> valuesAround(List<int[]> spans) {
        List<Integer> values = new ArrayList<>(List.of(Integer.MIN_VALUE, Integer.MIN_VALUE + 1, -65536, -256, -128,
                -64, -32, -10, NONE, -8, -2, -1, 127, 128, 1024, Integer.MAX_VALUE - 1, Integer.MAX_VALUE));
        for (int[] span : spans) {
            for (int end : span) {
                for (int by : new int[] {-1, 0, 1, 32, 64, 256, 65536, Integer.MIN_VALUE}) {
                    values.add(end + by);
                }
                values.add(-end);
                values.add(~end);
            }
        }
        return values;
    }

    // ---- what is told first, and that nothing is changed

    private static void refused(String line) throws Exception {
        String[] words = line.split(" ");
        Object[] given = parse(words, 2, words.length - 1);
        String told = told(words[0], words[1], given);
        PressedMen x = make(words[0]);
        int got = ask(x, words[1], given);
        int want = REFUSALS.get(words[words.length - 1]);
        expect(got == want, told + " answered " + got + ", due is " + want);
        List<String> after = allAnswers(x);
        List<String> before = allAnswers(make(words[0]));
        for (int i = 0; i < before.size(); i++) {
            if (!before.get(i).equals(after.get(i))) {
                expect(false, told + " was refused, but " + before.get(i) + " became " + after.get(i));
                return;
            }
        }
        expect(before.size() == after.size(), told + " was refused, but there is more or less than before");
    }

    /** What an object answers to nearly all that can be asked, in some 300 calls: so no object sees more than 512. */
    private static List<String> allAnswers(PressedMen x) throws Exception {
        List<String> answers = new ArrayList<>();
        for (int what = 0; what < 8; what++) {
            answer(answers, x, "count", what);
        }
        answersOfMen(answers, x);
        answersOfThings(answers, x);
        answersOfPort(answers, x);
        answer(answers, x, "tender", 0, 3);
        answer(answers, x, "tender", 1, 70);
        answer(answers, x, "pass", 1);
        int now = x.tide();
        for (int man = 0; man < Math.min(MEN, x.count(0)); man++) {
            answer(answers, x, "where", man, now);
        }
        answer(answers, x, "quiet");
        return answers;
    }

    private static void answersOfMen(List<String> answers, PressedMen x) throws Exception {
        int now = x.tide();
        for (int man = 0; man < Math.min(MEN, x.count(0)); man++) {
            answer(answers, x, "about", man, 0);
            answer(answers, x, "about", man, 7);
            answer(answers, x, "where", man, now);
            answer(answers, x, "where", man, Math.max(0, now - 1));
            answer(answers, x, "notAshore", man, now);
            answer(answers, x, "mayTruly", man);
            answer(answers, x, "may", man, NONE);
            answer(answers, x, "wages", man, false);
            answer(answers, x, "wages", man, true);
            answer(answers, x, "wrongedMan", man);
        }
        answer(answers, x, "about", x.count(0) - 1, 0);
        answer(answers, x, "wronged");
    }

    private static void answersOfThings(List<String> answers, PressedMen x) throws Exception {
        for (int ship = 0; ship < Math.min(SHIPS, x.count(1)); ship++) {
            for (int what = 0; what < 7; what++) {
                answer(answers, x, "of", ship, what);
            }
            answer(answers, x, "spare", ship, 0);
        }
        int now = x.tide();
        for (int paper = 0; paper < Math.min(PAPERS, x.count(2)); paper++) {
            answer(answers, x, "same", paper, now);
            answer(answers, x, "shown", paper, now);
            answer(answers, x, "cover", paper, paper, 2);
        }
        answer(answers, x, "same", x.count(2) - 1, 0);
        for (int act = 0; act < Math.min(ACTS, x.count(3)); act++) {
            answer(answers, x, "fault", act);
            answer(answers, x, "force", act);
        }
        for (int taking = 0; taking < Math.min(TAKINGS, x.count(4)); taking++) {
            for (int what = 0; what < 6; what++) {
                answer(answers, x, "taking", taking, what);
            }
        }
        answer(answers, x, "taking", x.count(4) - 1, 1);
        for (int ticket = 0; ticket < Math.min(TICKETS, x.count(5)); ticket++) {
            for (int what = 0; what < 4; what++) {
                answer(answers, x, "ticketOf", ticket, what);
            }
        }
        answer(answers, x, "ticketOf", x.count(5) - 1, 3);
    }

    private static void answersOfPort(List<String> answers, PressedMen x) throws Exception {
        for (int a = 0; a < 4; a++) {
            answer(answers, x, "heard", a);
            answer(answers, x, "at", a);
            answer(answers, x, "at", 20 + a);
            answer(answers, x, "fleet", a);
            for (int b = a + 1; b < 4; b++) {
                answer(answers, x, "far", a, b);
            }
        }
        for (int ship = 0; ship < Math.min(SHIPS, x.count(1)); ship++) {
            answer(answers, x, "at", 10 + ship);
            answer(answers, x, "taken", 1 << ship, 0);
        }
        for (int holder = 0; holder < 10; holder++) {
            answer(answers, x, "purse", holder);
        }
        for (int h = 1; h <= 3; h++) {
            answer(answers, x, "met", 2, h);
            answer(answers, x, "laid", 2, h, 1, h - 1);
        }
    }

    private static void answer(List<String> answers, PressedMen x, String name, Object... given) throws Exception {
        answers.add(told("then", name, given) + " = " + ask(x, name, given));
    }

    /** A call that was left out of the table would go untested without a word. */
    private static void namesAll() {
        for (String name : CALLS.keySet()) {
            boolean named = false;
            for (String line : ENDS) {
                named |= line.split(" ")[1].equals(name);
            }
            boolean takesNone = CALLS.get(name).getParameterCount() == 0;
            expect(named || takesNone || name.equals("wrongedMan"), "no ends are told of " + name);
        }
    }

    public static void main(String[] args) throws Exception {
        for (Method m : PressedMen.class.getDeclaredMethods()) {
            if ((m.getModifiers() & 1) != 0) {
                CALLS.put(m.getName(), m);
            }
        }
        namesAll();
        for (String line : ENDS) {
            ends(line);
        }
        for (String line : REFUSED) {
            refused(line);
        }
        System.out.println(asked + " refusals and what is granted next to them, " + wrong + " wrong");
        if (wrong != 0) {
            System.exit(1);
        }
    }
}
