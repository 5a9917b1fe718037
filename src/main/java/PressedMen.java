import java.util.Arrays;

/** A port where sailors are taken for a fleet, tide by tide. DOC.md says what each call promises. */
public final class PressedMen {
    public static final int UNKNOWN = -1, BAD = -2, STATE = -3, FULL = -4, NONE = -9;

    private static final int LAST_TIDE = 899, LONGEST_PASS = 60;
    private static final int MOST_STREETS = 8, MOST_MEN = 40, MOST_SHIPS = 10, MOST_PAPERS = 60;
    private static final int MOST_ACTS = 8, MOST_SIGNS = 60, MOST_TAKINGS = 60, MOST_TICKETS = 40;
    private static final int HOLDERS = 10, PURSE_AT_FIRST = 10000000;
    private static final int LAST_STREET = 7, FIRST_SHIP = 10, LAST_SHIP = 19;
    private static final int TENDER = 20, SICK = 21, INLAND = 22, RUN = 23;
    private static final int KING = 0, TRADE = 1;
    private static final int SEAMAN_YEARS = 3, SICK_TIDES = 10, SHOWN_TIDES = 14;
    private static final int MOST_GANGS = 2, MOST_STEPS = 3, WORST_WEATHER = 3;
    /** More than any distance or step: so comparisons with it need no case of their own. */
    private static final int NEVER = 999;

    private final Town town = new Town();
    private final Man[] men = new Man[MOST_MEN];
    private int manCount;
    private final Paper[] papers = new Paper[MOST_PAPERS];
    private int paperCount;
    private final Act[] acts = new Act[MOST_ACTS];
    private int actCount;
    private final Register register = new Register();
    private final Ship[] ships = new Ship[MOST_SHIPS];
    private int shipCount;
    private final Ticket[] tickets = new Ticket[MOST_TICKETS];
    private int ticketCount;
    private final int[] purses = new int[HOLDERS];
    private final int[] heardBy = new int[MOST_STREETS];
    private final Gangs laying = new Gangs(town);
    private final Levy levy = new Levy();
    private int now;
    private int room = 10;
    private int rate = 50;

    public PressedMen() {
        Arrays.fill(purses, PURSE_AT_FIRST);
    }

    // ---- port, men

    public int streets(int n) {
        if (!within(n, 1, MOST_STREETS)) {
            return BAD;
        }
        if (manCount > 0) {
            return STATE;
        }
        int before = town.streets;
        town.resize(n);
        return before;
    }

    public int way(int a, int b, boolean is) {
        if (!town.has(a) || !town.has(b)) {
            return UNKNOWN;
        }
        if (a == b) {
            return BAD;
        }
        return asNumber(town.setWay(a, b, is));
    }

    public int far(int a, int b) {
        if (!town.has(a) || !town.has(b)) {
            return UNKNOWN;
        }
        int hops = town.hops(a, b);
        return hops == NEVER ? NONE : hops;
    }

    public int man(int age, int hair, int scar, int height, int trade, int years, int home) {
        if (!town.has(home)) {
            return UNKNOWN;
        }
        if (!within(age, 10, 60) || !within(hair, 0, 3) || !within(scar, 0, 3)
                || !within(height, 50, 80) || !within(trade, 0, 5) || !within(years, 0, 40)) {
            return BAD;
        }
        if (manCount >= MOST_MEN) {
            return FULL;
        }
        men[manCount] = new Man(age, hair, scar, height, trade, years, home);
        manCount++;
        return manCount - 1;
    }

    public int about(int man, int what) {
        Man m = findMan(man);
        if (m == null) {
            return UNKNOWN;
        }
        switch (what) {
            case 0: return m.age;
            case 1: return m.hair;
            case 2: return m.scar;
            case 3: return m.height;
            case 4: return m.trade;
            case 5: return m.years;
            case 6: return m.home;
            case 7: return asNumber(m.isShy);
            default: return BAD;
        }
    }

    public int shy(int man, boolean shy) {
        Man m = findMan(man);
        if (m == null) {
            return UNKNOWN;
        }
        boolean before = m.isShy;
        m.isShy = shy;
        return asNumber(before);
    }

    public int where(int man, int tide) {
        Man m = findMan(man);
        if (m == null) {
            return UNKNOWN;
        }
        if (!within(tide, 0, now)) {
            return BAD;
        }
        return m.placeAsOf(tide);
    }

    public int at(int place) {
        if (!isPlace(place)) {
            return BAD;
        }
        return menIn(place);
    }

    public int tide() {
        return now;
    }

    public int pass(int n) {
        if (!within(n, 1, LONGEST_PASS)) {
            return BAD;
        }
        if (now + n > LAST_TIDE) {
            return FULL;
        }
        // Neither ways nor takings change while tides go by: one look at the news serves them all.
        for (int s = 0; s < town.streets; s++) {
            heardBy[s] = register.firstHeard(s, town);
        }
        for (int i = 0; i < n; i++) {
            now++;
            hideTheShy();
            sickenTheCrowd();
            sendTheSickHome();
        }
        return now;
    }

    public int walk(int man, int street) {
        Man m = findMan(man);
        if (m == null || !town.has(street)) {
            return UNKNOWN;
        }
        if (!isAshore(m.place)) {
            return STATE;
        }
        return m.goTo(street, now);
    }

    public int run(int man) {
        Man m = findMan(man);
        if (m == null) {
            return UNKNOWN;
        }
        if (m.place == RUN) {
            return STATE;
        }
        return m.goTo(RUN, now);
    }

    // ---- papers

    public int paper(int man, int hair, int scar, int ageFrom, int ageTo, int heightFrom, int heightTo,
            int from, int to) {
        if (findMan(man) == null) {
            return UNKNOWN;
        }
        if (!isMark(hair) || !isMark(scar) || !isSpan(ageFrom, ageTo, 99)
                || !isSpan(heightFrom, heightTo, 99) || !isSpan(from, to, LAST_TIDE)) {
            return BAD;
        }
        if (paperCount >= MOST_PAPERS) {
            return FULL;
        }
        papers[paperCount] = new Paper(man, hair, scar, new Span(ageFrom, ageTo),
                new Span(heightFrom, heightTo), new Span(from, to));
        paperCount++;
        return paperCount - 1;
    }

    public int cover(int paper, int man, int tide) {
        Paper p = findPaper(paper);
        Man m = findMan(man);
        if (p == null || m == null) {
            return UNKNOWN;
        }
        if (!isTide(tide)) {
            return BAD;
        }
        return p.coverage(m, tide);
    }

    public int same(int paper, int tide) {
        Paper p = findPaper(paper);
        if (p == null) {
            return UNKNOWN;
        }
        if (!isTide(tide)) {
            return BAD;
        }
        int covered = 0;
        for (int i = 0; i < manCount; i++) {
            if (p.coverage(men[i], tide) > 0) {
                covered++;
            }
        }
        return covered;
    }

    public int shown(int paper, int tide) {
        if (findPaper(paper) == null) {
            return UNKNOWN;
        }
        if (!isTide(tide)) {
            return BAD;
        }
        return register.menWhoShowed(paper, tide - SHOWN_TIDES + 1, tide);
    }

    // ---- acts

    public int act(int tide) {
        if (!isTide(tide)) {
            return BAD;
        }
        if (actCount >= MOST_ACTS) {
            return FULL;
        }
        acts[actCount] = new Act(tide);
        actCount++;
        return actCount - 1;
    }

    public int sign(int act, int sign) {
        Act a = findAct(act);
        if (a == null) {
            return UNKNOWN;
        }
        if (!within(sign, 33, 126)) {
            return BAD;
        }
        if (a.size >= MOST_SIGNS) {
            return FULL;
        }
        a.add(sign);
        return a.size;
    }

    public int fault(int act) {
        Act a = findAct(act);
        return a == null ? UNKNOWN : a.faultAt();
    }

    public int force(int tide) {
        return isTide(tide) ? actInForce(tide) : BAD;
    }

    public int may(int man, int paper) {
        Man m = findMan(man);
        if (m == null || !isPaperOrNone(paper)) {
            return UNKNOWN;
        }
        return asNumber(mayAsShown(m, paper));
    }

    public int mayTruly(int man) {
        return findMan(man) == null ? UNKNOWN : asNumber(mayInTruth(man));
    }

    // ---- takings, news

    public int take(int man, int paper) {
        Man m = findMan(man);
        if (m == null || !isPaperOrNone(paper)) {
            return UNKNOWN;
        }
        if (!isWithinReach(m.place)) {
            return STATE;
        }
        if (register.size >= MOST_TAKINGS) {
            return FULL;
        }
        // What was right is told by where he stood, so it is asked before he is moved.
        Taking t = new Taking(now, man, paper, m.place, mayAsShown(m, paper), mayInTruth(man));
        m.lastTaking = t;
        m.goTo(TENDER, now);
        register.add(t);
        return register.size - 1;
    }

    public int taking(int taking, int what) {
        Taking t = register.find(taking);
        if (t == null) {
            return UNKNOWN;
        }
        switch (what) {
            case 0: return t.tide;
            case 1: return t.man;
            case 2: return t.paper;
            case 3: return t.from;
            case 4: return asNumber(t.rightAsShown);
            case 5: return asNumber(t.rightInTruth);
            default: return BAD;
        }
    }

    public int wronged() {
        int wronged = 0;
        for (int i = 0; i < manCount; i++) {
            if (isWronged(men[i])) {
                wronged++;
            }
        }
        return wronged;
    }

    public int wrongedMan(int i) {
        int before = 0;
        for (int man = 0; man < manCount; man++) {
            if (isWronged(men[man])) {
                if (before == i) {
                    return man;
                }
                before++;
            }
        }
        return NONE;
    }

    public int letGo(int man) {
        Man m = findMan(man);
        if (m == null) {
            return UNKNOWN;
        }
        if (m.place != TENDER && m.place != SICK && !isInShipAtHome(m.place)) {
            return STATE;
        }
        return m.goTo(m.home, now);
    }

    public int quiet() {
        int talkedOf = register.takingsInNews();
        register.hush();
        return talkedOf;
    }

    public int heard(int street) {
        if (!town.has(street)) {
            return UNKNOWN;
        }
        int tide = register.firstHeard(street, town);
        return tide == NEVER ? NONE : tide;
    }

    public int tender(int what, int v) {
        if (what == 0 && within(v, 0, 40)) {
            int before = room;
            room = v;
            return before;
        }
        if (what == 1 && within(v, 0, 100)) {
            int before = rate;
            rate = v;
            return before;
        }
        return BAD;
    }

    // ---- gangs

    public int met(int gangs, int h) {
        if (!within(gangs, 1, MOST_GANGS) || !within(h, 1, MOST_STEPS)) {
            return BAD;
        }
        countTheTakeable();
        return laying.mostMet(gangs);
    }

    public int laid(int gangs, int h, int gang, int step) {
        if (!within(gangs, 1, MOST_GANGS) || !within(h, 1, MOST_STEPS)
                || !within(gang, 0, gangs - 1) || !within(step, 0, h - 1)) {
            return BAD;
        }
        countTheTakeable();
        laying.lay(gangs, h);
        return laying.streetOf(gang, step);
    }

    // ---- ships

    public int ship(int kind, int need, int seamen, int least) {
        if (!within(kind, KING, TRADE) || !within(need, 1, 20) || !within(seamen, 0, need)
                || !within(least, 0, 20)) {
            return BAD;
        }
        if (shipCount >= MOST_SHIPS) {
            return FULL;
        }
        ships[shipCount] = new Ship(kind, need, seamen, least);
        shipCount++;
        return shipCount - 1;
    }

    public int of(int ship, int what) {
        Ship s = findShip(ship);
        if (s == null) {
            return UNKNOWN;
        }
        switch (what) {
            case 0: return s.kind;
            case 1: return s.need;
            case 2: return s.seamen;
            case 3: return s.least;
            case 4: return asNumber(s.atHome);
            case 5: return menIn(FIRST_SHIP + ship);
            case 6: return seamenIn(FIRST_SHIP + ship);
            default: return BAD;
        }
    }

    public int spare(int ship, int weather) {
        Ship s = findShip(ship);
        if (s == null) {
            return UNKNOWN;
        }
        if (!isWeather(weather)) {
            return BAD;
        }
        if (s.kind == KING) {
            return STATE;
        }
        return spareOf(s, menIn(FIRST_SHIP + ship), weather);
    }

    public int board(int man, int ship) {
        Man m = findMan(man);
        Ship s = findShip(ship);
        if (m == null || s == null) {
            return UNKNOWN;
        }
        if (!isStreet(m.place) || !s.atHome) {
            return STATE;
        }
        int aboard = menIn(FIRST_SHIP + ship);
        if (aboard >= 2 * s.need) {
            return FULL;
        }
        m.goTo(FIRST_SHIP + ship, now);
        return aboard + 1;
    }

    public int turn(int man, int ship) {
        Man m = findMan(man);
        Ship s = findShip(ship);
        if (m == null || s == null) {
            return UNKNOWN;
        }
        boolean canLeave = m.place == TENDER || isInShipAtHome(m.place);
        if (!canLeave || m.place == FIRST_SHIP + ship || !s.atHome) {
            return STATE;
        }
        if (menIn(FIRST_SHIP + ship) >= 2 * s.need) {
            return FULL;
        }
        return m.goTo(FIRST_SHIP + ship, now);
    }

    public int notAshore(int man, int tide) {
        Man m = findMan(man);
        if (m == null) {
            return UNKNOWN;
        }
        if (!within(tide, 0, now)) {
            return BAD;
        }
        return m.tidesOffShore(tide);
    }

    public int taken(int set, int weather) {
        int kings = kingsAtHome();
        if (!isWeather(weather) || (set & ~kings) != 0) {
            return BAD;
        }
        musterLevy(weather);
        return leastTaken(set);
    }

    public int fleet(int weather) {
        if (!isWeather(weather)) {
            return BAD;
        }
        musterLevy(weather);
        int kings = kingsAtHome();
        int best = 0;
        int bestSize = 0;
        int bestTaken = 0;
        // From the least set up: one that is only as good as the best so far is no better.
        for (int set = 1; set <= kings; set++) {
            int size = Integer.bitCount(set);
            if ((set & ~kings) != 0 || size < bestSize) {
                continue;
            }
            int taken = leastTaken(set);
            if (taken != NONE && (size > bestSize || taken < bestTaken)) {
                best = set;
                bestSize = size;
                bestTaken = taken;
            }
        }
        return best;
    }

    public int sail(int ship) {
        Ship s = findShip(ship);
        if (s == null) {
            return UNKNOWN;
        }
        int aboard = menIn(FIRST_SHIP + ship);
        if (!s.atHome || aboard < s.need || seamenIn(FIRST_SHIP + ship) < s.seamen) {
            return STATE;
        }
        s.atHome = false;
        return aboard;
    }

    public int comeHome(int ship) {
        Ship s = findShip(ship);
        if (s == null) {
            return UNKNOWN;
        }
        if (s.atHome) {
            return STATE;
        }
        s.atHome = true;
        return menIn(FIRST_SHIP + ship);
    }

    // ---- tickets

    public int ticket(int man, int months, int wage) {
        Man m = findMan(man);
        if (m == null) {
            return UNKNOWN;
        }
        if (!within(months, 1, 99) || !within(wage, 1, 50)) {
            return BAD;
        }
        if (ticketCount >= MOST_TICKETS) {
            return FULL;
        }
        tickets[ticketCount] = new Ticket(man, months * wage);
        ticketCount++;
        return ticketCount - 1;
    }

    public int sell(int ticket, int holder, int part) {
        Ticket t = findTicket(ticket);
        if (t == null || !isHolder(holder)) {
            return UNKNOWN;
        }
        if (!within(part, 1, 100)) {
            return BAD;
        }
        if (t.isPaid || t.holder == holder) {
            return STATE;
        }
        int price = t.worth * part / 100;
        give(t, t.holder, price);
        purses[holder] -= price;
        t.holder = holder;
        return price;
    }

    public int pay(int ticket, int holder) {
        Ticket t = findTicket(ticket);
        if (t == null || (holder != NONE && !isHolder(holder))) {
            return UNKNOWN;
        }
        if (t.isPaid || t.holder != holder) {
            t.paidFalsely++;
        } else {
            t.isPaid = true;
        }
        give(t, holder, t.worth);
        return t.worth;
    }

    public int ticketOf(int ticket, int what) {
        Ticket t = findTicket(ticket);
        if (t == null) {
            return UNKNOWN;
        }
        switch (what) {
            case 0: return t.holder;
            case 1: return asNumber(t.isPaid);
            case 2: return t.paidFalsely;
            case 3: return t.worth;
            default: return BAD;
        }
    }

    public int purse(int holder) {
        return isHolder(holder) ? purses[holder] : UNKNOWN;
    }

    public int wages(int man, boolean owed) {
        Man m = findMan(man);
        if (m == null) {
            return UNKNOWN;
        }
        return owed ? owedTo(man) : m.got;
    }

    public int count(int what) {
        switch (what) {
            case 0: return manCount;
            case 1: return shipCount;
            case 2: return paperCount;
            case 3: return actCount;
            case 4: return register.size;
            case 5: return ticketCount;
            case 6: return menOffTheStreets();
            case 7: return town.streets;
            default: return BAD;
        }
    }

    // ---- what is told by number alone

    private static boolean within(int v, int from, int to) {
        return v >= from && v <= to;
    }

    private static int asNumber(boolean is) {
        return is ? 1 : 0;
    }

    private static boolean isTide(int tide) {
        return within(tide, 0, LAST_TIDE);
    }

    private static boolean isWeather(int weather) {
        return within(weather, 0, WORST_WEATHER);
    }

    private static boolean isHolder(int holder) {
        return within(holder, 0, HOLDERS - 1);
    }

    private static boolean isMark(int mark) {
        return mark == NONE || within(mark, 0, 3);
    }

    private static boolean isSpan(int from, int to, int last) {
        return from >= 0 && from <= to && to <= last;
    }

    private static boolean isStreet(int place) {
        return within(place, 0, LAST_STREET);
    }

    private static boolean isShip(int place) {
        return within(place, FIRST_SHIP, LAST_SHIP);
    }

    private static boolean isAshore(int place) {
        return isStreet(place) || place == INLAND;
    }

    // ---- who and what there is

    private Man findMan(int man) {
        return within(man, 0, manCount - 1) ? men[man] : null;
    }

    private Paper findPaper(int paper) {
        return within(paper, 0, paperCount - 1) ? papers[paper] : null;
    }

    private boolean isPaperOrNone(int paper) {
        return paper == NONE || findPaper(paper) != null;
    }

    private Act findAct(int act) {
        return within(act, 0, actCount - 1) ? acts[act] : null;
    }

    private Ship findShip(int ship) {
        return within(ship, 0, shipCount - 1) ? ships[ship] : null;
    }

    private Ticket findTicket(int ticket) {
        return within(ticket, 0, ticketCount - 1) ? tickets[ticket] : null;
    }

    // ---- where men are

    private boolean isPlace(int place) {
        return town.has(place) || findShip(place - FIRST_SHIP) != null || within(place, TENDER, RUN);
    }

    private boolean isInShipAtHome(int place) {
        Ship s = isShip(place) ? findShip(place - FIRST_SHIP) : null;
        return s != null && s.atHome;
    }

    private boolean isInShipOf(int kind, int place) {
        Ship s = isShip(place) ? findShip(place - FIRST_SHIP) : null;
        return s != null && s.kind == kind;
    }

    private boolean isWithinReach(int place) {
        return isStreet(place) || (isInShipAtHome(place) && isInShipOf(TRADE, place));
    }

    private int menIn(int place) {
        int there = 0;
        for (int i = 0; i < manCount; i++) {
            if (men[i].place == place) {
                there++;
            }
        }
        return there;
    }

    private int seamenIn(int place) {
        int there = 0;
        for (int i = 0; i < manCount; i++) {
            if (men[i].place == place && men[i].isSeaman()) {
                there++;
            }
        }
        return there;
    }

    private int menOffTheStreets() {
        int off = 0;
        for (int i = 0; i < manCount; i++) {
            if (!isStreet(men[i].place)) {
                off++;
            }
        }
        return off;
    }

    // ---- a tide goes by

    private void hideTheShy() {
        for (int i = 0; i < manCount; i++) {
            Man m = men[i];
            if (m.isShy && isStreet(m.place) && heardBy[m.place] <= now) {
                m.goTo(INLAND, now);
            }
        }
    }

    private void sickenTheCrowd() {
        int above = Math.max(0, menIn(TENDER) - room);
        int toSicken = above * rate / 100;
        for (int i = 0; i < manCount && toSicken > 0; i++) {
            if (men[i].place == TENDER) {
                men[i].goTo(SICK, now);
                toSicken--;
            }
        }
    }

    private void sendTheSickHome() {
        for (int i = 0; i < manCount; i++) {
            Man m = men[i];
            if (m.place == SICK && m.lastMoved() == now - SICK_TIDES) {
                m.goTo(m.home, now);
            }
        }
    }

    // ---- who may be taken

    private int actInForce(int tide) {
        int best = NONE;
        int bestTide = 0;
        for (int i = 0; i < actCount; i++) {
            Act a = acts[i];
            if (a.tide <= tide && a.tide >= bestTide && a.faultAt() == NONE) {
                best = i;
                bestTide = a.tide;
            }
        }
        return best;
    }

    private boolean mayAsShown(Man m, int paper) {
        Act a = findAct(actInForce(now));
        if (a == null) {
            return false;
        }
        Paper p = findPaper(paper);
        return a.holds(m, p != null && p.coverage(m, now) > 0);
    }

    private boolean mayInTruth(int man) {
        return holdsInTruth(findAct(actInForce(now)), man);
    }

    private boolean holdsInTruth(Act a, int man) {
        Man m = findMan(man);
        return a != null && m != null && a.holds(m, isCoveredInTruth(m, man));
    }

    private boolean isCoveredInTruth(Man m, int man) {
        for (int i = 0; i < paperCount; i++) {
            if (papers[i].owner == man && papers[i].coverage(m, now) > 0) {
                return true;
            }
        }
        return false;
    }

    private void countTheTakeable() {
        laying.forgetMen();
        Act a = findAct(actInForce(now));
        for (int i = 0; i < manCount; i++) {
            if (isStreet(men[i].place) && holdsInTruth(a, i)) {
                laying.addMan(men[i].place);
            }
        }
    }

    private boolean isWronged(Man m) {
        if (m.lastTaking == null || m.lastTaking.rightInTruth) {
            return false;
        }
        return m.place == TENDER || m.place == SICK || isInShipOf(KING, m.place);
    }

    // ---- the fleet

    private static int spareOf(Ship s, int aboard, int weather) {
        return Math.max(0, aboard - s.least - weather);
    }

    private int kingsAtHome() {
        int set = 0;
        for (int i = 0; i < shipCount; i++) {
            if (ships[i].kind == KING && ships[i].atHome) {
                set |= 1 << i;
            }
        }
        return set;
    }

    private void musterLevy(int weather) {
        levy.begin(menIn(TENDER), seamenIn(TENDER));
        for (int i = 0; i < shipCount; i++) {
            Ship s = ships[i];
            if (!s.atHome) {
                continue;
            }
            int aboard = menIn(FIRST_SHIP + i);
            int seamen = seamenIn(FIRST_SHIP + i);
            if (s.kind == KING) {
                levy.addCrew(aboard, seamen);
            } else {
                levy.addSpare(spareOf(s, aboard, weather), seamen);
            }
        }
    }

    private int leastTaken(int set) {
        int need = 0;
        int seamen = 0;
        for (int i = 0; i < shipCount; i++) {
            if ((set >> i & 1) == 1) {
                need += ships[i].need;
                seamen += ships[i].seamen;
            }
        }
        return levy.leastFor(need, seamen);
    }

    // ---- wages

    private void give(Ticket t, int holder, int sum) {
        if (isHolder(holder)) {
            purses[holder] += sum;
            return;
        }
        Man m = findMan(t.man);
        if (m != null) {
            m.got += sum;
        }
    }

    private int owedTo(int man) {
        int owed = 0;
        for (int i = 0; i < ticketCount; i++) {
            Ticket t = tickets[i];
            if (t.man == man && t.holder == NONE && !t.isPaid) {
                owed += t.worth;
            }
        }
        return owed;
    }

    /** Streets, the ways between them, and how far each is from each. */
    private static final class Town {
        int streets = 4;
        private final boolean[] ways = new boolean[MOST_STREETS * MOST_STREETS];
        private final int[] hops = new int[MOST_STREETS * MOST_STREETS];
        private boolean measured;

        boolean has(int street) {
            return within(street, 0, streets - 1);
        }

        private static int cell(int a, int b) {
            return a * MOST_STREETS + b;
        }

        void resize(int n) {
            streets = n;
            measured = false;
            for (int gone = n; gone < MOST_STREETS; gone++) {
                for (int s = 0; s < MOST_STREETS; s++) {
                    ways[cell(gone, s)] = false;
                    ways[cell(s, gone)] = false;
                }
            }
        }

        boolean setWay(int a, int b, boolean is) {
            boolean before = ways[cell(a, b)];
            ways[cell(a, b)] = is;
            ways[cell(b, a)] = is;
            if (before != is) {
                measured = false;
            }
            return before;
        }

        boolean isStep(int a, int b) {
            return a == b || ways[cell(a, b)];
        }

        int hops(int a, int b) {
            if (!measured) {
                measure();
            }
            return hops[cell(a, b)];
        }

        private void measure() {
            measured = true;
            for (int a = 0; a < streets; a++) {
                for (int b = 0; b < streets; b++) {
                    hops[cell(a, b)] = a == b ? 0 : ways[cell(a, b)] ? 1 : NEVER;
                }
            }
            for (int over = 0; over < streets; over++) {
                for (int a = 0; a < streets; a++) {
                    for (int b = 0; b < streets; b++) {
                        int round = hops[cell(a, over)] + hops[cell(over, b)];
                        hops[cell(a, b)] = Math.min(hops[cell(a, b)], round);
                    }
                }
            }
        }
    }

    /** A man as he looks, and every place that he went to. */
    private static final class Man {
        final int age;
        final int hair;
        final int scar;
        final int height;
        final int trade;
        final int years;
        final int home;
        boolean isShy;
        int place;
        int got;
        Taking lastTaking;
        private int[] moveTides = new int[4];
        private int[] movePlaces = new int[4];
        private int moves;

        Man(int age, int hair, int scar, int height, int trade, int years, int home) {
            this.age = age;
            this.hair = hair;
            this.scar = scar;
            this.height = height;
            this.trade = trade;
            this.years = years;
            this.home = home;
            this.place = home;
        }

        boolean isSeaman() {
            return years >= SEAMAN_YEARS;
        }

        int goTo(int newPlace, int tide) {
            int before = place;
            place = newPlace;
            // Of one tide only the last move counts: so there are never more of them than tides.
            if (moves == 0 || moveTides[moves - 1] != tide) {
                makeRoom();
                moveTides[moves] = tide;
                moves++;
            }
            movePlaces[moves - 1] = newPlace;
            return before;
        }

        private void makeRoom() {
            if (moves >= moveTides.length) {
                moveTides = Arrays.copyOf(moveTides, moves * 2);
                movePlaces = Arrays.copyOf(movePlaces, moves * 2);
            }
        }

        int lastMoved() {
            return moves == 0 ? NONE : moveTides[moves - 1];
        }

        /** The last move no later than that tide; below 0: he had not yet moved. */
        private int moveAsOf(int tide) {
            int i = moves - 1;
            while (i >= 0 && moveTides[i] > tide) {
                i--;
            }
            return i;
        }

        int placeAsOf(int tide) {
            int i = moveAsOf(tide);
            return i < 0 ? home : movePlaces[i];
        }

        int tidesOffShore(int tide) {
            int until = tide;
            for (int i = moveAsOf(tide); i >= 0; i--) {
                if (isAshore(movePlaces[i])) {
                    return tide - until;
                }
                until = moveTides[i] - 1;
            }
            return tide - until;
        }
    }

    /** All numbers between two, with both. */
    private static final class Span {
        final int from;
        final int to;

        Span(int from, int to) {
            this.from = from;
            this.to = to;
        }

        boolean holds(int v) {
            return within(v, from, to);
        }

        int width() {
            return to - from;
        }
    }

    /** What a paper says of a man, and when it is good. */
    private static final class Paper {
        final int owner;
        private final int hair;
        private final int scar;
        private final Span ages;
        private final Span heights;
        private final Span tides;

        Paper(int owner, int hair, int scar, Span ages, Span heights, Span tides) {
            this.owner = owner;
            this.hair = hair;
            this.scar = scar;
            this.ages = ages;
            this.heights = heights;
            this.tides = tides;
        }

        int coverage(Man m, int tide) {
            if (!tides.holds(tide) || !describes(m)) {
                return 0;
            }
            boolean sure = hair != NONE && scar != NONE && ages.width() <= 5 && heights.width() <= 2;
            return sure ? 2 : 1;
        }

        private boolean describes(Man m) {
            return (hair == NONE || hair == m.hair) && (scar == NONE || scar == m.scar)
                    && ages.holds(m.age) && heights.holds(m.height);
        }
    }

    /** A text of signs, read as it comes; and whether it holds for a man. */
    private static final class Act {
        final int tide;
        int size;
        private final byte[] signs = new byte[MOST_SIGNS];
        private int textsDue = 1;
        private int digitsDue;
        private int broken = NONE;

        Act(int tide) {
            this.tide = tide;
        }

        void add(int sign) {
            if (size >= signs.length) {
                return;
            }
            if (broken == NONE && !goesOnWith(sign)) {
                broken = size;
            }
            signs[size] = (byte) sign;
            size++;
        }

        private boolean goesOnWith(int sign) {
            if (digitsDue > 0) {
                return takesDigit(sign);
            }
            if (textsDue == 0) {
                return false;
            }
            switch (sign) {
                case '&':
                case '|':
                    textsDue++;
                    return true;
                case '!':
                    return true;
                case 'p':
                case 's':
                case 'h':
                    textsDue--;
                    return true;
                case 'a':
                case 'A':
                case 'y':
                case 'Y':
                case 't':
                    digitsDue = 2;
                    return true;
                default:
                    return false;
            }
        }

        private boolean takesDigit(int sign) {
            if (!isDigit(sign)) {
                return false;
            }
            digitsDue--;
            if (digitsDue == 0) {
                textsDue--;
            }
            return true;
        }

        private static boolean isDigit(int sign) {
            return within(sign, '0', '9');
        }

        int faultAt() {
            if (broken != NONE) {
                return broken;
            }
            return textsDue > 0 ? size : NONE;
        }

        /** From the last sign to the first, what each text says is known before it is joined:
            it waits in the bits of a number, which has more of them than a text has tests. */
        boolean holds(Man m, boolean covered) {
            long waiting = 0;
            for (int i = size - 1; i >= 0; i--) {
                int sign = signs[i];
                long first = waiting & 1;
                if (sign == '&') {
                    waiting = (waiting >>> 1) & (first | ~1L);
                } else if (sign == '|') {
                    waiting = (waiting >>> 1) | first;
                } else if (sign == '!') {
                    waiting = waiting ^ 1;
                } else if (!isDigit(sign)) {
                    waiting = (waiting << 1) | asNumber(testHolds(i, m, covered));
                }
            }
            return (waiting & 1) == 1;
        }

        private boolean testHolds(int i, Man m, boolean covered) {
            switch (signs[i]) {
                case 'a': return m.age >= numberBehind(i);
                case 'A': return m.age < numberBehind(i);
                case 'y': return m.years >= numberBehind(i);
                case 'Y': return m.years < numberBehind(i);
                case 't': return m.trade == numberBehind(i);
                case 'p': return covered;
                case 's': return isShip(m.place);
                case 'h': return m.place == m.home;
                default: return false;
            }
        }

        private int numberBehind(int i) {
            if (i + 2 >= size) {
                return 0;
            }
            return (signs[i + 1] - '0') * 10 + signs[i + 2] - '0';
        }
    }

    /** How one man was taken. */
    private static final class Taking {
        final int tide;
        final int man;
        final int paper;
        final int from;
        final boolean rightAsShown;
        final boolean rightInTruth;

        Taking(int tide, int man, int paper, int from, boolean rightAsShown, boolean rightInTruth) {
            this.tide = tide;
            this.man = man;
            this.paper = paper;
            this.from = from;
            this.rightAsShown = rightAsShown;
            this.rightInTruth = rightInTruth;
        }
    }

    /** All takings, and the news of those in streets since it was last quiet. */
    private static final class Register {
        int size;
        private final Taking[] takings = new Taking[MOST_TAKINGS];
        private int quietUpTo;

        void add(Taking t) {
            if (size < takings.length) {
                takings[size] = t;
                size++;
            }
        }

        Taking find(int taking) {
            return within(taking, 0, size - 1) ? takings[taking] : null;
        }

        void hush() {
            quietUpTo = size;
        }

        int takingsInNews() {
            int news = 0;
            for (int i = quietUpTo; i < size; i++) {
                if (isStreet(takings[i].from)) {
                    news++;
                }
            }
            return news;
        }

        int firstHeard(int street, Town town) {
            int first = NEVER;
            for (int i = quietUpTo; i < size; i++) {
                Taking t = takings[i];
                int hops = isStreet(t.from) ? town.hops(t.from, street) : NEVER;
                if (hops < NEVER) {
                    first = Math.min(first, t.tide + hops);
                }
            }
            return first;
        }

        int menWhoShowed(int paper, int fromTide, int toTide) {
            long showed = 0;
            for (int i = 0; i < size; i++) {
                Taking t = takings[i];
                if (t.paper == paper && within(t.tide, fromTide, toTide)) {
                    showed |= 1L << t.man;
                }
            }
            return Long.bitCount(showed);
        }
    }

    /** A ship, and whether it is at home. */
    private static final class Ship {
        final int kind;
        final int need;
        final int seamen;
        final int least;
        boolean atHome = true;

        Ship(int kind, int need, int seamen, int least) {
            this.kind = kind;
            this.need = need;
            this.seamen = seamen;
            this.least = least;
        }
    }

    /** A ticket for wages, and whose it is. */
    private static final class Ticket {
        final int man;
        final int worth;
        int holder = NONE;
        boolean isPaid;
        int paidFalsely;

        Ticket(int man, int worth) {
            this.man = man;
            this.worth = worth;
        }
    }

    /** Men for the king's ships: those at hand, and those that trade can spare. */
    private static final class Levy {
        private int atHand;
        private int seamenAtHand;
        private int toSpare;
        private int seamenToSpare;

        void begin(int men, int seamen) {
            atHand = men;
            seamenAtHand = seamen;
            toSpare = 0;
            seamenToSpare = 0;
        }

        void addCrew(int men, int seamen) {
            atHand += men;
            seamenAtHand += seamen;
        }

        void addSpare(int spared, int seamenAboard) {
            toSpare += spared;
            seamenToSpare += Math.min(spared, seamenAboard);
        }

        /** Seamen are taken first: so whoever is taken for one need serves the other too. */
        int leastFor(int need, int seamen) {
            int lackSeamen = Math.max(0, seamen - seamenAtHand);
            int least = Math.max(lackSeamen, need - atHand);
            return lackSeamen <= seamenToSpare && least <= toSpare ? least : NONE;
        }
    }

    /** Gangs laid out in a town: the streets of each, step by step.
        A gang goes no faster than news: once it met men, or came where they had HEARD, wherever it comes
        next has HEARD too. So it meets men, if at all, only where it first comes to some; and walks that
        first come to men in the same street and step are of one kind, of which the first is enough. */
    private static final class Gangs {
        private static final int TO_NOBODY = MOST_STEPS * MOST_STREETS;

        private final Town town;
        private final int[] takeable = new int[MOST_STREETS];
        private final int[] firstWalks = new int[TO_NOBODY + 1];
        private final int[] walked = new int[MOST_GANGS * MOST_STEPS];

        Gangs(Town town) {
            this.town = town;
        }

        void forgetMen() {
            Arrays.fill(takeable, 0);
        }

        void addMan(int street) {
            if (town.has(street)) {
                takeable[street]++;
            }
        }

        int streetOf(int gang, int step) {
            return walked[gang * MOST_STEPS + step];
        }

        /** In step 0 no street has HEARD: gangs that begin in the best streets meet the most there is. */
        int mostMet(int gangCount) {
            int best = 0;
            int second = 0;
            for (int s = 0; s < town.streets; s++) {
                if (takeable[s] > best) {
                    second = best;
                    best = takeable[s];
                } else if (takeable[s] > second) {
                    second = takeable[s];
                }
            }
            return gangCount == 1 ? best : best + second;
        }

        void lay(int gangCount, int steps) {
            int most = mostMet(gangCount);
            findFirstWalks(steps);
            int best = NEVER;
            int bestMate = NEVER;
            for (int kind = 0; kind <= TO_NOBODY; kind++) {
                int mate = firstWalks[kind] < best ? firstMate(kind, gangCount, most) : NEVER;
                if (mate < NEVER) {
                    best = firstWalks[kind];
                    bestMate = mate;
                }
            }
            walkOut(0, best, steps);
            walkOut(1, bestMate, steps);
        }

        /** The first walk of gang 1 with which both meet the most; one gang alone needs none. */
        private int firstMate(int kind, int gangCount, int most) {
            if (gangCount == 1) {
                return menMet(kind) == most ? 0 : NEVER;
            }
            int first = NEVER;
            for (int other = 0; other <= TO_NOBODY; other++) {
                if (firstWalks[other] < first && menMetByBoth(kind, other) == most) {
                    first = firstWalks[other];
                }
            }
            return first;
        }

        private int menMet(int kind) {
            return kind == TO_NOBODY ? 0 : takeable[kind % MOST_STREETS];
        }

        private int menMetByBoth(int a, int b) {
            if (a == TO_NOBODY || b == TO_NOBODY) {
                return menMet(a) + menMet(b);
            }
            int early = Math.min(a, b);
            int late = Math.max(a, b);
            int stepsAgo = late / MOST_STREETS - early / MOST_STREETS;
            int hops = town.hops(early % MOST_STREETS, late % MOST_STREETS);
            boolean metOnce = hops == 0 || (stepsAgo > 0 && stepsAgo >= hops);
            return metOnce ? menMet(early) : menMet(early) + menMet(late);
        }

        private void findFirstWalks(int steps) {
            Arrays.fill(firstWalks, NEVER);
            int walks = 1;
            for (int step = 0; step < steps; step++) {
                walks *= town.streets;
            }
            for (int walk = 0; walk < walks; walk++) {
                if (walkOut(0, walk, steps)) {
                    int kind = kindWalked(steps);
                    firstWalks[kind] = Math.min(firstWalks[kind], walk);
                }
            }
        }

        /** A walk is a number whose digits are its streets, so that the first by streets is the least;
            answers whether there are ways for it. */
        private boolean walkOut(int gang, int walk, int steps) {
            int rest = walk;
            int next = NONE;
            boolean can = true;
            for (int step = steps - 1; step >= 0; step--) {
                int street = town.streets > 0 ? rest % town.streets : 0;
                rest = town.streets > 0 ? rest / town.streets : 0;
                walked[gang * MOST_STEPS + step] = street;
                can = can && (next == NONE || town.isStep(street, next));
                next = street;
            }
            return can;
        }

        /** Kinds are numbered step by step: the earlier of two is the lower one. */
        private int kindWalked(int steps) {
            for (int step = 0; step < steps; step++) {
                int street = streetOf(0, step);
                if (takeable[street] > 0) {
                    return step * MOST_STREETS + street;
                }
            }
            return TO_NOBODY;
        }
    }
}
