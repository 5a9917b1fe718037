import java.lang.reflect.Method;
import java.util.ArrayList;
import java.util.Arrays;
import java.util.HashMap;
import java.util.HashSet;
import java.util.List;
import java.util.Map;
import java.util.Random;
import java.util.Set;

/** Runs of calls, drawn from fixed seeds, on the class and on a model that does all the long way round. */
public final class ModelTests {
    static final int UNKNOWN = -1, BAD = -2, STATE = -3, FULL = -4, NONE = -9;
    static final int RUNS = 500, TOWNS = 250, CALLS = 512;

    /** What a call's arguments are drawn as; the number ahead is how often it is drawn. */
    static final String[] CALLS_DRAWN = {
        "6 way s s b", "4 far s s", "20 man age mark mark height trade years s", "2 about m w8", "6 shy m b",
        "5 where m past", "3 at place", "1 tide", "12 pass few", "8 walk m s", "2 run m",
        "12 paper m hair hair ages height tides", "5 cover p m tide", "3 same p tide", "4 shown p tide",
        "3 act tide", "15 sign a sign", "6 fault a", "4 force tide", "8 may m p", "5 mayTruly m", "22 take m p",
        "8 taking g w6", "3 wronged", "4 wrongedMan few", "9 letGo m", "2 quiet", "6 heard s", "6 tender w2 room",
        "2 met gangs steps", "3 laid gangs steps gang step", "6 ship kind need seamen least", "4 of S w7",
        "4 spare S weather", "14 board m S", "12 turn m S", "5 notAshore m past", "6 taken set weather",
        "4 fleet weather", "9 sail S", "3 comeHome S", "4 ticket m months wage", "5 sell T h part", "4 pay T h",
        "3 ticketOf T w4", "2 purse h", "3 wages m b", "3 count w8", "1 streets street"
    };

    public static void main(String[] args) throws Exception {
        Map<String, Method> real = methodsOf(PressedMen.class);
        Map<String, Method> model = methodsOf(Model.class);
        Set<String> named = new HashSet<>();
        for (String line : CALLS_DRAWN) {
            named.add(line.split(" ")[1]);
        }
        int wrong = named.equals(real.keySet()) ? 0 : 1;
        if (wrong != 0) {
            System.out.println("not every call is drawn: " + real.keySet());
        }
        long answers = 0;
        Map<String, Integer> good = new HashMap<>();
        for (int seed = 0; seed < RUNS && wrong < 5; seed++) {
            Random random = new Random(seed);
            PressedMen x = new PressedMen();
            Model y = new Model();
            Drawer drawer = new Drawer(random, y);
            List<String[]> drawn = mixture(random);
            StringBuilder log = new StringBuilder();
            for (int i = 0; i < CALLS; i++) {
                String[] words = i < 40 ? firstCall(i, random) : drawn.get(random.nextInt(drawn.size()));
                if (y.calm() && (words[1].equals("met") || words[1].equals("laid"))) {
                    continue;
                }
                Object[] a = drawer.draw(words);
                int got = (Integer) real.get(words[1]).invoke(x, a);
                int want = (Integer) model.get(words[1]).invoke(y, a);
                answers++;
                if (want >= 0) {
                    good.merge(words[1], 1, Integer::sum);
                }
                log.append(words[1]).append(Arrays.toString(a)).append(" -> ").append(want).append('\n');
                if (got != want) {
                    wrong++;
                    System.out.println("seed " + seed + ", call " + i + ": " + words[1] + Arrays.toString(a)
                            + " answered " + got + ", due is " + want);
                    if (args.length > 0) {
                        System.out.println(log);
                    }
                    break;
                }
            }
        }
        for (String name : named) {
            if (good.getOrDefault(name, 0) < 20) {
                wrong++;
                System.out.println(name + " was hardly ever granted");
            }
        }
        for (int seed = 0; seed < TOWNS; seed++) {
            wrong += wrongLayings(new Random(seed));
        }
        System.out.println(answers + " answers, " + wrong + " wrong");
        if (wrong != 0) {
            System.exit(1);
        }
    }

    /** A town with men in some of its streets: all that can be asked of its layings. */
    static int wrongLayings(Random random) {
        PressedMen x = new PressedMen();
        Model y = new Model();
        int streets = 1 + random.nextInt(random.nextInt(8) == 0 ? 8 : 6);
        x.streets(streets);
        y.streets(streets);
        int ways = random.nextInt(2 * streets + 1);
        for (int i = 0; i < ways; i++) {
            int a = random.nextInt(streets);
            int b = random.nextInt(streets);
            x.way(a, b, true);
            y.way(a, b, true);
        }
        int haunts = 1 + random.nextInt(streets);
        int men = random.nextInt(12);
        for (int i = 0; i < men; i++) {
            int home = streets - 1 - random.nextInt(haunts);
            x.man(20, 0, 0, 60, 0, 5, home);
            y.man(20, 0, 0, 60, 0, 5, home);
        }
        x.sign(x.act(0), 'h');
        y.sign(y.act(0), 'h');
        int wrong = 0;
        for (int gangs = 1; gangs <= 2; gangs++) {
            for (int h = 1; h <= 3; h++) {
                int[] best = y.bestLaying(gangs, h);
                wrong += x.met(gangs, h) == best[0] ? 0 : 1;
                for (int i = 0; i < gangs * h; i++) {
                    wrong += x.laid(gangs, h, i / h, i % h) == best[1 + i] ? 0 : 1;
                }
            }
        }
        if (wrong != 0) {
            System.out.println(wrong + " wrong of the layings in " + streets + " streets, ways " + y.ways);
        }
        return wrong;
    }

    /** Each run has its own: some calls often, some never, so that runs come to unlike states. */
    static List<String[]> mixture(Random random) {
        List<String[]> drawn = new ArrayList<>();
        for (String line : CALLS_DRAWN) {
            String[] words = line.split(" ");
            int times = Integer.parseInt(words[0]) * new int[] {0, 1, 1, 1, 4}[random.nextInt(5)];
            for (int i = 0; i < times; i++) {
                drawn.add(words);
            }
        }
        return drawn;
    }

    /** A town, ways, men, ships and an act, ahead of all else. */
    static String[] firstCall(int i, Random random) {
        String line = i == 0 ? "1 streets street" : i < 6 ? "1 way s s b"
                : i < 20 ? "1 man age mark mark height trade years s"
                : i < 24 ? "1 ship kind need seamen least" : i == 24 ? "1 act zero"
                : i < 32 ? "1 sign a sign" : "1 board m S";
        return line.split(" ");
    }

    static Map<String, Method> methodsOf(Class<?> type) {
        Map<String, Method> methods = new HashMap<>();
        for (Method m : type.getDeclaredMethods()) {
            if ((m.getModifiers() & 1) != 0) {
                m.setAccessible(true);
                methods.put(m.getName(), m);
            }
        }
        return methods;
    }

    /** Draws arguments: mostly such as there are, at times ones that there are not. */
    static final class Drawer {
        final Random random;
        final Model y;

        Drawer(Random random, Model y) {
            this.random = random;
            this.y = y;
        }

        Object[] draw(String[] words) {
            List<Object> a = new ArrayList<>();
            for (int i = 2; i < words.length; i++) {
                if (words[i].equals("b")) {
                    a.add(random.nextInt(4) != 0);
                } else if (random.nextInt(60) == 0) {
                    a.add(odd());
                    if (isPair(words[i])) {
                        a.add(odd());
                    }
                } else {
                    drawKind(words[i], a);
                }
            }
            if (words[1].equals("paper")) {
                // Heights come as a pair too.
                a.add(6, (Integer) a.get(5) + random.nextInt(6) - 1);
                describe(a);
            }
            if (words[1].equals("sign") && random.nextInt(10) != 0) {
                goOn(a);
            }
            return a.toArray();
        }

        /** Mostly what a paper says fits the man it is given to, or one like him. */
        void describe(List<Object> a) {
            int man = (Integer) a.get(0);
            if (!y.isMan(man) || random.nextInt(5) == 0) {
                return;
            }
            Model.Man m = y.men.get(random.nextInt(6) == 0 ? random.nextInt(y.men.size()) : man);
            a.set(1, random.nextInt(4) == 0 ? NONE : m.hair);
            a.set(2, random.nextInt(4) == 0 ? NONE : m.scar);
            a.set(3, m.age - random.nextInt(4));
            a.set(4, m.age + random.nextInt(4));
            a.set(5, m.height - random.nextInt(3));
            a.set(6, m.height + random.nextInt(2));
        }

        /** A sign with which a text that is not whole can go on: else hardly any would ever be in force. */
        void goOn(List<Object> a) {
            for (int act = 0; act < y.acts.size(); act++) {
                String text = y.texts.get(act).toString();
                if (y.fault(act) != text.length()) {
                    continue;
                }
                String signs = text.length() > 9 ? "psh!01234a" : "&|!aAyYtpsh&|01234";
                char sign = signs.charAt(random.nextInt(signs.length()));
                for (int i = 0; i < 99 && Model.end(text + sign, 0) == -1 - text.length(); i++) {
                    sign = signs.charAt(random.nextInt(signs.length()));
                }
                a.set(0, act);
                a.set(1, (int) sign);
                return;
            }
            a.set(0, y.acts.size());
        }

        boolean isPair(String kind) {
            return kind.equals("ages") || kind.equals("tides");
        }

        int odd() {
            int[] odds = {-1, -2, NONE, -10, 0, 4, 8, 9, 10, 21, 40, 60, 61, 100, 899, 900, 1024,
                Integer.MIN_VALUE, Integer.MAX_VALUE};
            return odds[random.nextInt(odds.length)];
        }

        int upTo(int count) {
            return random.nextInt(count + (random.nextInt(8) == 0 ? 2 : count == 0 ? 1 : 0));
        }

        void drawKind(String kind, List<Object> a) {
            switch (kind) {
                case "ages" -> {
                    int from = 10 + random.nextInt(30);
                    a.add(from);
                    a.add(from + random.nextInt(25) - 1);
                }
                case "tides" -> {
                    int from = Math.max(0, y.now - 10 + random.nextInt(20));
                    a.add(from);
                    a.add(from + random.nextInt(60) - 1);
                }
                default -> a.add(drawOne(kind));
            }
        }

        int drawOne(String kind) {
            switch (kind) {
                case "s": return upTo(y.streets);
                case "m": return upTo(y.men.size());
                case "p": return random.nextInt(3) == 0 ? NONE : upTo(y.papers.size());
                case "a": return upTo(y.acts.size());
                case "g": return upTo(y.takings.size());
                case "S": return upTo(y.ships.size());
                case "T": return upTo(y.tickets.size());
                case "h": return random.nextInt(5) == 0 ? NONE : random.nextInt(10);
                case "w2": return random.nextInt(2);
                case "w4": return random.nextInt(4);
                case "w6": return random.nextInt(6);
                case "w7": return random.nextInt(7);
                case "w8": return random.nextInt(8);
                case "street": return 1 + (random.nextInt(10) == 0 ? random.nextInt(8) : random.nextInt(5));
                case "age": return 15 + random.nextInt(30);
                case "mark": return random.nextInt(3);
                case "hair": return random.nextInt(3) == 0 ? NONE : random.nextInt(3);
                case "height": return 58 + random.nextInt(6);
                case "trade": return random.nextInt(6);
                case "years": return random.nextInt(7);
                case "zero": return random.nextInt(4);
                case "past": return Math.max(0, y.now - random.nextInt(25));
                case "tide": return Math.max(0, y.now - 10 + random.nextInt(20));
                case "place": return random.nextInt(24);
                case "few": return 1 + random.nextInt(random.nextInt(10) == 0 ? 60 : 5);
                case "sign": return drawSign();
                case "room": return random.nextInt(3) == 0 ? random.nextInt(101) : random.nextInt(8);
                case "gangs": return 1 + random.nextInt(2);
                case "steps": return 1 + random.nextInt(3);
                case "gang": return random.nextInt(2);
                case "step": return random.nextInt(3);
                case "kind": return random.nextInt(2);
                case "need": return 1 + random.nextInt(5);
                case "seamen": return random.nextInt(3);
                case "least": return random.nextInt(3);
                case "weather": return random.nextInt(4);
                case "set": return drawSet();
                case "months": return 1 + random.nextInt(99);
                case "wage": return 1 + random.nextInt(50);
                case "part": return 1 + random.nextInt(100);
                default: throw new IllegalStateException(kind);
            }
        }

        int drawSign() {
            String signs = "&|!aAyYtpshph0123401234";
            return random.nextInt(40) == 0 ? 33 + random.nextInt(94) : signs.charAt(random.nextInt(signs.length()));
        }

        int drawSet() {
            int set = 0;
            for (int i = 0; i < y.ships.size(); i++) {
                Model.Ship s = y.ships.get(i);
                if (s.kind == 0 && s.home && random.nextInt(2) == 0) {
                    set |= 1 << i;
                }
            }
            return set;
        }
    }

    /** The document, said once more without a thought of room or time. */
    static final class Model {
        static final class Man {
            int age, hair, scar, height, trade, years, home, got, sickSince;
            boolean shy;
            int[] was = new int[900];
            int lastTaking = NONE;
        }

        static final class Ship {
            int kind, need, seamen, least;
            boolean home = true;
        }

        static final class Ticket {
            int man, months, wage, holder = NONE, falsely;
            boolean paid;
        }

        int streets = 4, now = 0, room = 10, rate = 50, quietFrom = 0;
        Set<Integer> ways = new HashSet<>();
        List<Man> men = new ArrayList<>();
        List<int[]> papers = new ArrayList<>();
        List<Integer> acts = new ArrayList<>();
        List<StringBuilder> texts = new ArrayList<>();
        List<int[]> takings = new ArrayList<>();
        List<Ship> ships = new ArrayList<>();
        List<Ticket> tickets = new ArrayList<>();
        int[] purses = new int[10];
        int layings = 0;

        /** Layings by all paths are dear: of a big town only some are asked for. */
        boolean calm() {
            return streets > 5 && layings++ % 4 != 0;
        }

        static boolean in(int v, int from, int to) {
            return v >= from && v <= to;
        }

        boolean isMan(int m) {
            return in(m, 0, men.size() - 1);
        }

        boolean isShip(int s) {
            return in(s, 0, ships.size() - 1);
        }

        boolean isPaper(int p) {
            return in(p, 0, papers.size() - 1);
        }

        boolean isStreet(int s) {
            return in(s, 0, streets - 1);
        }

        int place(int man) {
            return men.get(man).was[now];
        }

        int move(int man, int place) {
            int before = place(man);
            Arrays.fill(men.get(man).was, now, 900, place);
            return before;
        }

        boolean hasWay(int a, int b) {
            return ways.contains(Math.min(a, b) * 10 + Math.max(a, b));
        }

        public int streets(int n) {
            if (!in(n, 1, 8)) {
                return BAD;
            }
            if (!men.isEmpty()) {
                return STATE;
            }
            int before = streets;
            streets = n;
            ways.removeIf(w -> w / 10 >= n || w % 10 >= n);
            return before;
        }

        public int way(int a, int b, boolean is) {
            if (!isStreet(a) || !isStreet(b)) {
                return UNKNOWN;
            }
            if (a == b) {
                return BAD;
            }
            int before = hasWay(a, b) ? 1 : 0;
            int key = Math.min(a, b) * 10 + Math.max(a, b);
            if (is) {
                ways.add(key);
            } else {
                ways.remove(key);
            }
            return before;
        }

        public int far(int a, int b) {
            if (!isStreet(a) || !isStreet(b)) {
                return UNKNOWN;
            }
            Set<Integer> reached = new HashSet<>(Set.of(a));
            for (int d = 0; d < 9; d++) {
                if (reached.contains(b)) {
                    return d;
                }
                for (int s : new ArrayList<>(reached)) {
                    for (int t = 0; t < streets; t++) {
                        if (hasWay(s, t)) {
                            reached.add(t);
                        }
                    }
                }
            }
            return NONE;
        }

        public int man(int age, int hair, int scar, int height, int trade, int years, int home) {
            if (!isStreet(home)) {
                return UNKNOWN;
            }
            if (!in(age, 10, 60) || !in(hair, 0, 3) || !in(scar, 0, 3) || !in(height, 50, 80)
                    || !in(trade, 0, 5) || !in(years, 0, 40)) {
                return BAD;
            }
            if (men.size() == 40) {
                return FULL;
            }
            Man m = new Man();
            m.age = age;
            m.hair = hair;
            m.scar = scar;
            m.height = height;
            m.trade = trade;
            m.years = years;
            m.home = home;
            Arrays.fill(m.was, home);
            men.add(m);
            return men.size() - 1;
        }

        public int about(int man, int what) {
            if (!isMan(man)) {
                return UNKNOWN;
            }
            Man m = men.get(man);
            int[] all = {m.age, m.hair, m.scar, m.height, m.trade, m.years, m.home, m.shy ? 1 : 0};
            return in(what, 0, 7) ? all[what] : BAD;
        }

        public int shy(int man, boolean shy) {
            if (!isMan(man)) {
                return UNKNOWN;
            }
            int before = men.get(man).shy ? 1 : 0;
            men.get(man).shy = shy;
            return before;
        }

        public int where(int man, int tide) {
            return !isMan(man) ? UNKNOWN : !in(tide, 0, now) ? BAD : men.get(man).was[tide];
        }

        List<Integer> menAt(int place) {
            List<Integer> there = new ArrayList<>();
            for (int i = 0; i < men.size(); i++) {
                if (place(i) == place) {
                    there.add(i);
                }
            }
            return there;
        }

        int seamenAt(int place) {
            return (int) menAt(place).stream().filter(i -> men.get(i).years >= 3).count();
        }

        public int at(int place) {
            boolean is = isStreet(place) || (in(place, 10, 19) && isShip(place - 10)) || in(place, 20, 23);
            return is ? menAt(place).size() : BAD;
        }

        public int tide() {
            return now;
        }

        public int pass(int n) {
            if (!in(n, 1, 60)) {
                return BAD;
            }
            if (now + n > 899) {
                return FULL;
            }
            for (int i = 0; i < n; i++) {
                goBy();
            }
            return now;
        }

        void goBy() {
            now++;
            for (int s = 0; s < streets; s++) {
                int heard = heard(s);
                if (heard != NONE && heard <= now) {
                    for (int man : menAt(s)) {
                        if (men.get(man).shy) {
                            move(man, 22);
                        }
                    }
                }
            }
            List<Integer> crowd = menAt(20);
            if (crowd.size() > room) {
                int sick = (crowd.size() - room) * rate / 100;
                for (int i = 0; i < sick; i++) {
                    move(crowd.get(i), 21);
                    men.get(crowd.get(i)).sickSince = now;
                }
            }
            for (int man : menAt(21)) {
                if (men.get(man).sickSince == now - 10) {
                    move(man, men.get(man).home);
                }
            }
        }

        public int walk(int man, int street) {
            if (!isMan(man) || !isStreet(street)) {
                return UNKNOWN;
            }
            return place(man) <= 7 || place(man) == 22 ? move(man, street) : STATE;
        }

        public int run(int man) {
            return !isMan(man) ? UNKNOWN : place(man) == 23 ? STATE : move(man, 23);
        }

        public int paper(int man, int hair, int scar, int ageFrom, int ageTo, int heightFrom, int heightTo,
                int from, int to) {
            if (!isMan(man)) {
                return UNKNOWN;
            }
            if ((hair != NONE && !in(hair, 0, 3)) || (scar != NONE && !in(scar, 0, 3))
                    || !in(ageFrom, 0, 99) || !in(ageTo, 0, 99) || ageFrom > ageTo
                    || !in(heightFrom, 0, 99) || !in(heightTo, 0, 99) || heightFrom > heightTo
                    || !in(from, 0, 899) || !in(to, 0, 899) || from > to) {
                return BAD;
            }
            if (papers.size() == 60) {
                return FULL;
            }
            papers.add(new int[] {man, hair, scar, ageFrom, ageTo, heightFrom, heightTo, from, to});
            return papers.size() - 1;
        }

        public int cover(int paper, int man, int tide) {
            if (!isPaper(paper) || !isMan(man)) {
                return UNKNOWN;
            }
            if (!in(tide, 0, 899)) {
                return BAD;
            }
            int[] p = papers.get(paper);
            Man m = men.get(man);
            if (!in(tide, p[7], p[8]) || !in(m.age, p[3], p[4]) || !in(m.height, p[5], p[6])) {
                return 0;
            }
            if ((p[1] != NONE && p[1] != m.hair) || (p[2] != NONE && p[2] != m.scar)) {
                return 0;
            }
            return p[1] != NONE && p[2] != NONE && p[4] - p[3] <= 5 && p[6] - p[5] <= 2 ? 2 : 1;
        }

        public int same(int paper, int tide) {
            if (!isPaper(paper)) {
                return UNKNOWN;
            }
            if (!in(tide, 0, 899)) {
                return BAD;
            }
            int n = 0;
            for (int i = 0; i < men.size(); i++) {
                n += cover(paper, i, tide) > 0 ? 1 : 0;
            }
            return n;
        }

        public int shown(int paper, int tide) {
            if (!isPaper(paper)) {
                return UNKNOWN;
            }
            if (!in(tide, 0, 899)) {
                return BAD;
            }
            Set<Integer> who = new HashSet<>();
            for (int[] t : takings) {
                if (t[2] == paper && tide - t[0] >= 0 && tide - t[0] < 14) {
                    who.add(t[1]);
                }
            }
            return who.size();
        }

        public int act(int tide) {
            if (!in(tide, 0, 899)) {
                return BAD;
            }
            if (acts.size() == 8) {
                return FULL;
            }
            acts.add(tide);
            texts.add(new StringBuilder());
            return acts.size() - 1;
        }

        public int sign(int act, int sign) {
            if (!in(act, 0, acts.size() - 1)) {
                return UNKNOWN;
            }
            if (!in(sign, 33, 126)) {
                return BAD;
            }
            if (texts.get(act).length() == 60) {
                return FULL;
            }
            texts.get(act).append((char) sign);
            return texts.get(act).length();
        }

        /** Where a text that begins at i ends; below 0: -1 less the sign at which it could not go on. */
        static int end(String t, int i) {
            if (i == t.length()) {
                return -1 - i;
            }
            char c = t.charAt(i);
            if (c == '&' || c == '|') {
                int middle = end(t, i + 1);
                return middle < 0 ? middle : end(t, middle);
            }
            if (c == '!') {
                return end(t, i + 1);
            }
            if ("psh".indexOf(c) >= 0) {
                return i + 1;
            }
            if ("aAyYt".indexOf(c) < 0) {
                return -1 - i;
            }
            for (int k = i + 1; k <= i + 2; k++) {
                if (k == t.length() || t.charAt(k) < '0' || t.charAt(k) > '9') {
                    return -1 - k;
                }
            }
            return i + 3;
        }

        public int fault(int act) {
            if (!in(act, 0, acts.size() - 1)) {
                return UNKNOWN;
            }
            String t = texts.get(act).toString();
            int end = end(t, 0);
            return end < 0 ? -1 - end : end < t.length() ? end : NONE;
        }

        public int force(int tide) {
            if (!in(tide, 0, 899)) {
                return BAD;
            }
            for (int t = tide; t >= 0; t--) {
                for (int i = acts.size() - 1; i >= 0; i--) {
                    if (acts.get(i) == t && fault(i) == NONE) {
                        return i;
                    }
                }
            }
            return NONE;
        }

        boolean holds(String t, int man, boolean covered) {
            Man m = men.get(man);
            char c = t.charAt(0);
            if (c == '&' || c == '|') {
                int middle = end(t, 1);
                boolean a = holds(t.substring(1, middle), man, covered);
                boolean b = holds(t.substring(middle), man, covered);
                return c == '&' ? a && b : a || b;
            }
            if (c == '!') {
                return !holds(t.substring(1), man, covered);
            }
            if (c == 'p') {
                return covered;
            }
            if (c == 's') {
                return in(place(man), 10, 19);
            }
            if (c == 'h') {
                return place(man) == m.home;
            }
            int n = Integer.parseInt(t.substring(1));
            return c == 'a' ? m.age >= n : c == 'A' ? m.age < n : c == 'y' ? m.years >= n
                    : c == 'Y' ? m.years < n : m.trade == n;
        }

        int by(int man, boolean covered) {
            int act = force(now);
            return act != NONE && holds(texts.get(act).toString(), man, covered) ? 1 : 0;
        }

        public int may(int man, int paper) {
            if (!isMan(man) || (paper != NONE && !isPaper(paper))) {
                return UNKNOWN;
            }
            return by(man, paper != NONE && cover(paper, man, now) > 0);
        }

        public int mayTruly(int man) {
            if (!isMan(man)) {
                return UNKNOWN;
            }
            boolean covered = false;
            for (int i = 0; i < papers.size(); i++) {
                covered |= papers.get(i)[0] == man && cover(i, man, now) > 0;
            }
            return by(man, covered);
        }

        boolean inShip(int man, int kind, boolean homeOnly) {
            int p = place(man);
            if (!in(p, 10, 19)) {
                return false;
            }
            Ship s = ships.get(p - 10);
            return (kind < 0 || s.kind == kind) && (s.home || !homeOnly);
        }

        public int take(int man, int paper) {
            if (!isMan(man) || (paper != NONE && !isPaper(paper))) {
                return UNKNOWN;
            }
            if (place(man) > 7 && !inShip(man, 1, true)) {
                return STATE;
            }
            if (takings.size() == 60) {
                return FULL;
            }
            takings.add(new int[] {now, man, paper, place(man), may(man, paper), mayTruly(man)});
            men.get(man).lastTaking = takings.size() - 1;
            move(man, 20);
            return takings.size() - 1;
        }

        public int taking(int taking, int what) {
            if (!in(taking, 0, takings.size() - 1)) {
                return UNKNOWN;
            }
            return in(what, 0, 5) ? takings.get(taking)[what] : BAD;
        }

        List<Integer> allWronged() {
            List<Integer> all = new ArrayList<>();
            for (int i = 0; i < men.size(); i++) {
                int t = men.get(i).lastTaking;
                if (t != NONE && takings.get(t)[5] == 0
                        && (place(i) == 20 || place(i) == 21 || inShip(i, 0, false))) {
                    all.add(i);
                }
            }
            return all;
        }

        public int wronged() {
            return allWronged().size();
        }

        public int wrongedMan(int i) {
            return in(i, 0, wronged() - 1) ? allWronged().get(i) : NONE;
        }

        public int letGo(int man) {
            if (!isMan(man)) {
                return UNKNOWN;
            }
            boolean can = place(man) == 20 || place(man) == 21 || inShip(man, -1, true);
            return can ? move(man, men.get(man).home) : STATE;
        }

        public int quiet() {
            int n = 0;
            for (int i = quietFrom; i < takings.size(); i++) {
                n += takings.get(i)[3] <= 7 ? 1 : 0;
            }
            quietFrom = takings.size();
            return n;
        }

        public int heard(int street) {
            if (!isStreet(street)) {
                return UNKNOWN;
            }
            int first = NONE;
            for (int i = quietFrom; i < takings.size(); i++) {
                int[] t = takings.get(i);
                int far = t[3] <= 7 ? far(t[3], street) : NONE;
                if (far != NONE && (first == NONE || t[0] + far < first)) {
                    first = t[0] + far;
                }
            }
            return first;
        }

        public int tender(int what, int v) {
            int before = what == 0 ? room : rate;
            if (what == 0 && in(v, 0, 40)) {
                room = v;
                return before;
            }
            if (what == 1 && in(v, 0, 100)) {
                rate = v;
                return before;
            }
            return BAD;
        }

        /** All layings, in their order: how many the best meets, then its streets. */
        int[] bestLaying(int gangs, int h) {
            int[] laying = new int[gangs * h];
            int[] best = new int[1 + gangs * h];
            best[0] = -1;
            int[] may = new int[streets];
            for (int i = 0; i < men.size(); i++) {
                if (place(i) <= 7 && mayTruly(i) == 1) {
                    may[place(i)]++;
                }
            }
            int[][] fars = new int[streets][streets];
            for (int a = 0; a < streets; a++) {
                for (int b = 0; b < streets; b++) {
                    fars[a][b] = far(a, b) == NONE ? 99 : far(a, b);
                }
            }
            layFrom(0, gangs, h, laying, best, may, fars);
            return best;
        }

        void layFrom(int i, int gangs, int h, int[] laying, int[] best, int[] may, int[][] fars) {
            if (i == gangs * h) {
                int met = metBy(gangs, h, laying, may, fars);
                if (met > best[0]) {
                    best[0] = met;
                    System.arraycopy(laying, 0, best, 1, laying.length);
                }
                return;
            }
            for (int s = 0; s < streets; s++) {
                if (i % h == 0 || fars[laying[i - 1]][s] <= 1) {
                    laying[i] = s;
                    layFrom(i + 1, gangs, h, laying, best, may, fars);
                }
            }
        }

        int metBy(int gangs, int h, int[] laying, int[] may, int[][] fars) {
            int sum = 0;
            int[] metIn = new int[streets];
            Arrays.fill(metIn, -1);
            for (int step = 0; step < h; step++) {
                for (int g = 0; g < gangs; g++) {
                    int s = laying[g * h + step];
                    boolean heard = false;
                    for (int t = 0; t < streets; t++) {
                        heard |= metIn[t] >= 0 && metIn[t] < step && step - metIn[t] >= fars[s][t];
                    }
                    if (!heard && metIn[s] < 0 && may[s] > 0) {
                        metIn[s] = step;
                        sum += may[s];
                    }
                }
            }
            return sum;
        }

        public int met(int gangs, int h) {
            return in(gangs, 1, 2) && in(h, 1, 3) ? bestLaying(gangs, h)[0] : BAD;
        }

        public int laid(int gangs, int h, int gang, int step) {
            if (!in(gangs, 1, 2) || !in(h, 1, 3) || !in(gang, 0, gangs - 1) || !in(step, 0, h - 1)) {
                return BAD;
            }
            return bestLaying(gangs, h)[1 + gang * h + step];
        }

        public int ship(int kind, int need, int seamen, int least) {
            if (!in(kind, 0, 1) || !in(need, 1, 20) || !in(seamen, 0, need) || !in(least, 0, 20)) {
                return BAD;
            }
            if (ships.size() == 10) {
                return FULL;
            }
            Ship s = new Ship();
            s.kind = kind;
            s.need = need;
            s.seamen = seamen;
            s.least = least;
            ships.add(s);
            return ships.size() - 1;
        }

        public int of(int ship, int what) {
            if (!isShip(ship)) {
                return UNKNOWN;
            }
            Ship s = ships.get(ship);
            int[] all = {s.kind, s.need, s.seamen, s.least, s.home ? 1 : 0, menAt(10 + ship).size(),
                seamenAt(10 + ship)};
            return in(what, 0, 6) ? all[what] : BAD;
        }

        public int spare(int ship, int weather) {
            if (!isShip(ship)) {
                return UNKNOWN;
            }
            if (!in(weather, 0, 3)) {
                return BAD;
            }
            if (ships.get(ship).kind == 0) {
                return STATE;
            }
            return Math.max(0, menAt(10 + ship).size() - ships.get(ship).least - weather);
        }

        public int board(int man, int ship) {
            if (!isMan(man) || !isShip(ship)) {
                return UNKNOWN;
            }
            if (place(man) > 7 || !ships.get(ship).home) {
                return STATE;
            }
            if (menAt(10 + ship).size() >= 2 * ships.get(ship).need) {
                return FULL;
            }
            move(man, 10 + ship);
            return menAt(10 + ship).size();
        }

        public int turn(int man, int ship) {
            if (!isMan(man) || !isShip(ship)) {
                return UNKNOWN;
            }
            if ((place(man) != 20 && !inShip(man, -1, true)) || place(man) == 10 + ship || !ships.get(ship).home) {
                return STATE;
            }
            if (menAt(10 + ship).size() >= 2 * ships.get(ship).need) {
                return FULL;
            }
            return move(man, 10 + ship);
        }

        public int notAshore(int man, int tide) {
            if (!isMan(man)) {
                return UNKNOWN;
            }
            if (!in(tide, 0, now)) {
                return BAD;
            }
            int t = tide;
            while (t >= 0 && men.get(man).was[t] > 7 && men.get(man).was[t] != 22) {
                t--;
            }
            return tide - t;
        }

        /** Whether so many, and so many seamen, can be taken out of the ships of trade from this one on. */
        boolean canTake(int ship, int seamen, int others, int weather) {
            if (ship == ships.size()) {
                return seamen == 0 && others == 0;
            }
            Ship s = ships.get(ship);
            if (s.kind == 0 || !s.home) {
                return canTake(ship + 1, seamen, others, weather);
            }
            int able = seamenAt(10 + ship);
            int not = menAt(10 + ship).size() - able;
            int most = spare(ship, weather);
            for (int a = 0; a <= Math.min(able, seamen); a++) {
                for (int b = 0; b <= Math.min(not, others) && a + b <= most; b++) {
                    if (canTake(ship + 1, seamen - a, others - b, weather)) {
                        return true;
                    }
                }
            }
            return false;
        }

        int leastFor(int needs, int seamen, int weather) {
            int have = menAt(20).size();
            int able = seamenAt(20);
            for (int i = 0; i < ships.size(); i++) {
                if (ships.get(i).kind == 0 && ships.get(i).home) {
                    have += menAt(10 + i).size();
                    able += seamenAt(10 + i);
                }
            }
            for (int taken = Math.max(0, needs - have); taken <= 40; taken++) {
                for (int a = 0; a <= taken; a++) {
                    if (able + a >= seamen && canTake(0, a, taken - a, weather)) {
                        return taken;
                    }
                }
            }
            return NONE;
        }

        boolean isSet(int set) {
            for (int i = 0; i < 32; i++) {
                if ((set >>> i & 1) == 1 && (!isShip(i) || ships.get(i).kind != 0 || !ships.get(i).home)) {
                    return false;
                }
            }
            return true;
        }

        public int taken(int set, int weather) {
            if (!in(weather, 0, 3) || !isSet(set)) {
                return BAD;
            }
            int needs = 0;
            int seamen = 0;
            for (int i = 0; i < ships.size(); i++) {
                if ((set >>> i & 1) == 1) {
                    needs += ships.get(i).need;
                    seamen += ships.get(i).seamen;
                }
            }
            return leastFor(needs, seamen, weather);
        }

        public int fleet(int weather) {
            if (!in(weather, 0, 3)) {
                return BAD;
            }
            Map<String, Integer> known = new HashMap<>();
            int best = 0;
            long bestRank = 0;
            for (int set = 0; set < 1 << ships.size(); set++) {
                if (!isSet(set)) {
                    continue;
                }
                int needs = 0;
                int seamen = 0;
                for (int i = 0; i < ships.size(); i++) {
                    needs += (set >> i & 1) * ships.get(i).need;
                    seamen += (set >> i & 1) * ships.get(i).seamen;
                }
                int n = needs;
                int s = seamen;
                int taken = known.computeIfAbsent(n + " " + s, k -> leastFor(n, s, weather));
                long rank = Integer.bitCount(set) * 1000L - taken;
                if (taken != NONE && rank > bestRank) {
                    best = set;
                    bestRank = rank;
                }
            }
            return best;
        }

        public int sail(int ship) {
            if (!isShip(ship)) {
                return UNKNOWN;
            }
            Ship s = ships.get(ship);
            if (!s.home || menAt(10 + ship).size() < s.need || seamenAt(10 + ship) < s.seamen) {
                return STATE;
            }
            s.home = false;
            return menAt(10 + ship).size();
        }

        public int comeHome(int ship) {
            if (!isShip(ship)) {
                return UNKNOWN;
            }
            if (ships.get(ship).home) {
                return STATE;
            }
            ships.get(ship).home = true;
            return menAt(10 + ship).size();
        }

        public int ticket(int man, int months, int wage) {
            if (!isMan(man)) {
                return UNKNOWN;
            }
            if (!in(months, 1, 99) || !in(wage, 1, 50)) {
                return BAD;
            }
            if (tickets.size() == 40) {
                return FULL;
            }
            Ticket t = new Ticket();
            t.man = man;
            t.months = months;
            t.wage = wage;
            tickets.add(t);
            return tickets.size() - 1;
        }

        void gets(Ticket t, int holder, int sum) {
            if (holder == NONE) {
                men.get(t.man).got += sum;
            } else {
                purses[holder] += sum;
            }
        }

        public int sell(int ticket, int holder, int part) {
            if (!in(ticket, 0, tickets.size() - 1) || !in(holder, 0, 9)) {
                return UNKNOWN;
            }
            if (!in(part, 1, 100)) {
                return BAD;
            }
            Ticket t = tickets.get(ticket);
            if (t.paid || t.holder == holder) {
                return STATE;
            }
            int price = t.months * t.wage * part / 100;
            gets(t, t.holder, price);
            gets(t, holder, -price);
            t.holder = holder;
            return price;
        }

        public int pay(int ticket, int holder) {
            if (!in(ticket, 0, tickets.size() - 1) || (holder != NONE && !in(holder, 0, 9))) {
                return UNKNOWN;
            }
            Ticket t = tickets.get(ticket);
            if (!t.paid && t.holder == holder) {
                t.paid = true;
            } else {
                t.falsely++;
            }
            gets(t, holder, t.months * t.wage);
            return t.months * t.wage;
        }

        public int ticketOf(int ticket, int what) {
            if (!in(ticket, 0, tickets.size() - 1)) {
                return UNKNOWN;
            }
            Ticket t = tickets.get(ticket);
            // A holder may be NONE, which is no refusal.
            int[] all = {t.holder, t.paid ? 1 : 0, t.falsely, t.months * t.wage};
            return in(what, 0, 3) ? all[what] : BAD;
        }

        public int purse(int holder) {
            return in(holder, 0, 9) ? 10000000 + purses[holder] : UNKNOWN;
        }

        public int wages(int man, boolean owed) {
            if (!isMan(man)) {
                return UNKNOWN;
            }
            int sum = 0;
            for (Ticket t : tickets) {
                sum += t.man == man && t.holder == NONE && !t.paid ? t.months * t.wage : 0;
            }
            return owed ? sum : men.get(man).got;
        }

        public int count(int what) {
            int streetless = 0;
            for (int i = 0; i < men.size(); i++) {
                streetless += place(i) > 7 ? 1 : 0;
            }
            int[] all = {men.size(), ships.size(), papers.size(), acts.size(), takings.size(), tickets.size(),
                streetless, streets};
            return in(what, 0, 7) ? all[what] : BAD;
        }
    }
}
