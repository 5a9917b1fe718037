/** Sentence by sentence of DOC.md: the boundary cases that it names. A sentence stands ahead of its cases,
    with the number of its promise or, with a T, of its term. No object sees more than 512 calls. */
public final class BoundaryTests {
    private static final int UNKNOWN = -1, BAD = -2, STATE = -3, FULL = -4, NONE = -9;
    private static final int TENDER = 20, SICK = 21, INLAND = 22, RUN = 23;
    private static final int TEN_MILLION = 10000000;
    private static int wrong = 0;
    private static int asked = 0;
    private static String sentence = "";

    private static void sentence(String text) {
        sentence = text;
    }

    private static void due(String what, int got, int want) {
        asked++;
        if (got != want) {
            wrong++;
            System.out.println("[" + sentence + "] " + what + ": answered " + got + ", due is " + want);
        }
    }

    /** So many men in street 0, which is their home: of 20, hair 0, scar 0, height 60, trade 0, five years at sea. */
    private static PressedMen port(int streets, int men) {
        PressedMen x = new PressedMen();
        x.streets(streets);
        for (int i = 0; i < men; i++) {
            manAt(x, 0);
        }
        return x;
    }

    private static int manAt(PressedMen x, int home) {
        return x.man(20, 0, 0, 60, 0, 5, home);
    }

    private static int landsman(PressedMen x) {
        return x.man(20, 0, 0, 60, 0, 2, 0);
    }

    private static void chain(PressedMen x, int streets) {
        for (int s = 1; s < streets; s++) {
            x.way(s - 1, s, true);
        }
    }

    private static int enact(PressedMen x, int tide, String text) {
        int act = x.act(tide);
        for (int i = 0; i < text.length(); i++) {
            x.sign(act, text.charAt(i));
        }
        return act;
    }

    private static void passTo(PressedMen x, int tide) {
        for (int now = x.tide(); now < tide; now = x.tide()) {
            x.pass(Math.min(60, tide - now));
        }
    }

    private static void sickenAll(PressedMen x) {
        x.tender(0, 0);
        x.tender(1, 100);
    }

    // ---- streets, ways, far

    private static void streets() {
        sentence("T1 STREETS: n 1 .. 8; 4 at first; 2 how many there were");
        PressedMen x = new PressedMen();
        due("at first", x.count(7), 4);
        due("the fewest", x.streets(1), 4);
        due("as many as there are", x.streets(1), 1);
        due("the most", x.streets(8), 1);
        due("one too few", x.streets(0), BAD);
        due("one too many", x.streets(9), BAD);
        due("as before", x.count(7), 8);
        due("the last one is there", x.far(7, 7), 0);
        due("none behind it", x.far(7, 8), UNKNOWN);
        x.streets(1);
        due("one alone", x.far(0, 0), 0);
        due("no second", x.far(1, 0), UNKNOWN);
        sentence("2 STATE: there are MEN");
        due("no man could be told", x.man(20, 0, 0, 60, 0, 0, 1), UNKNOWN);
        due("so there are none", x.streets(3), 1);
        manAt(x, 2);
        due("one man", x.streets(4), STATE);
        due("as many as there are", x.streets(3), STATE);
        x.run(0);
        due("he is run", x.streets(4), STATE);
        due("still three", x.count(7), 3);
    }

    private static void waysThatStay() {
        sentence("2 WAYS between those that stay stay, others are gone");
        for (int stay = 1; stay <= 8; stay++) {
            PressedMen x = new PressedMen();
            x.streets(8);
            for (int a = 0; a < 8; a++) {
                for (int b = a + 1; b < 8; b++) {
                    x.way(a, b, true);
                }
            }
            x.streets(stay);
            x.streets(8);
            for (int a = 0; a < 8; a++) {
                for (int b = a + 1; b < 8; b++) {
                    due("of " + stay + ", " + a + " to " + b, x.far(a, b), b < stay ? 1 : NONE);
                }
            }
            for (int a = 0; a < 8; a++) {
                for (int b = a + 1; b < 8; b++) {
                    due("whether there was " + a + " to " + b, x.way(b, a, false), b < stay ? 1 : 0);
                }
            }
        }
        PressedMen x = new PressedMen();
        x.way(2, 3, true);
        x.streets(8);
        due("more of them take none away", x.far(3, 2), 1);
        x.way(7, 0, true);
        due("there to the last", x.far(0, 7), 1);
        x.streets(7);
        x.streets(8);
        due("the last is gone and another one is new", x.far(0, 7), NONE);
        x.streets(0);
        x.streets(9);
        due("a refused call neither", x.far(3, 2), 1);
    }

    private static void ways() {
        sentence("T1 WAYS between two of them (none at first)");
        PressedMen x = new PressedMen();
        for (int a = 0; a < 4; a++) {
            for (int b = a + 1; b < 4; b++) {
                due("none at first", x.way(a, b, false), 0);
            }
        }
        sentence("3 A WAY (is), or none: whether there was");
        due("the first and the last", x.way(0, 3, true), 0);
        due("from the other side", x.way(3, 0, true), 1);
        due("taken away", x.way(3, 0, false), 1);
        due("taken away once more", x.way(0, 3, false), 0);
        due("not far any more", x.far(0, 3), NONE);
        sentence("3 UNKNOWN; BAD: they are one");
        for (int s = 0; s < 4; s++) {
            due("one", x.way(s, s, true), BAD);
            due("one, taken away", x.way(s, s, false), BAD);
        }
        due("one that there is not", x.way(4, 4, true), UNKNOWN);
        due("a street just behind the last", x.way(3, 4, true), UNKNOWN);
        due("a street just ahead of the first", x.way(-1, 0, true), UNKNOWN);
        x.streets(3);
        due("a street that is gone", x.way(3, 0, true), UNKNOWN);
        x.streets(4);
        due("what was refused is not there", x.way(3, 0, true), 0);
    }

    private static void far() {
        sentence("4 FAR: the fewest WAYS; NONE: they hang not together");
        PressedMen x = new PressedMen();
        x.streets(8);
        for (int s = 0; s < 8; s++) {
            due("itself, without a way", x.far(s, s), 0);
        }
        chain(x, 8);
        for (int a = 0; a < 8; a++) {
            for (int b = 0; b < 8; b++) {
                due("in a row, " + a + " to " + b, x.far(a, b), Math.abs(a - b));
            }
        }
        x.way(7, 0, true);
        for (int b = 0; b < 8; b++) {
            due("in a ring, to " + b, x.far(0, b), Math.min(b, 8 - b));
        }
        x.way(3, 4, false);
        x.way(7, 0, false);
        due("in two rows, the first", x.far(0, 3), 3);
        due("in two rows, the second", x.far(7, 4), 3);
        due("in two rows, the one to the other", x.far(3, 4), NONE);
        due("a street that there is not", x.far(0, 8), UNKNOWN);
        due("a street that there is not, from it", x.far(-1, 0), UNKNOWN);
        for (int middle = 0; middle < 8; middle++) {
            PressedMen star = new PressedMen();
            star.streets(8);
            for (int s = 0; s < 8; s++) {
                star.way(middle, s, true);
            }
            for (int s = 0; s < 8; s++) {
                int want = s == middle ? 1 : s == (middle + 1) % 8 ? 0 : 2;
                due("around " + middle, star.far((middle + 1) % 8, s), want);
            }
        }
    }

    // ---- men

    private static void men() {
        sentence("T1 MEN: AGE 10 .. 60, HAIR, SCAR 0 .. 3, HEIGHT 50 .. 80, TRADE 0 .. 5, YEARS 0 .. 40, a HOME");
        int[] least = {10, 0, 0, 50, 0, 0, 0};
        int[] most = {60, 3, 3, 80, 5, 40, 3};
        PressedMen x = new PressedMen();
        due("all the least", x.man(10, 0, 0, 50, 0, 0, 0), 0);
        due("all the most", x.man(60, 3, 3, 80, 5, 40, 3), 1);
        for (int what = 0; what < 7; what++) {
            due("the least is kept", x.about(0, what), least[what]);
            due("the most is kept", x.about(1, what), most[what]);
        }
        for (int what = 0; what < 7; what++) {
            int refusal = what == 6 ? UNKNOWN : BAD;
            due("below, " + what, manWith(x, what, least[what] - 1), refusal);
            due("above, " + what, manWith(x, what, most[what] + 1), refusal);
            due("NONE, " + what, manWith(x, what, NONE), refusal);
        }
        due("no more of them", x.count(0), 2);
        sentence("T1 MEN 0, 1, .. (40 at most); 5 FULL");
        for (int i = 2; i < 40; i++) {
            due("man " + i, manAt(x, i % 4), i);
        }
        due("one more", manAt(x, 0), FULL);
        due("still one more", manAt(x, 3), FULL);
        due("so many", x.count(0), 40);
        due("the last is there", x.about(39, 6), 3);
        due("none behind him", x.about(40, 6), UNKNOWN);
        due("who was refused is nowhere", x.at(0) + x.at(1) + x.at(2) + x.at(3), 40);
        sentence("T1 BOLD or SHY (BOLD at first)");
        due("at first", x.about(39, 7), 0);
        due("of one who is no man", x.shy(40, true), UNKNOWN);
        due("it was nobody else's", x.shy(39, true), 0);
        due("made so again", x.shy(39, true), 1);
        due("and not", x.shy(39, false), 1);
        due("and not again", x.shy(39, false), 0);
        sentence("6 what 0 .. 7; BAD");
        due("below", x.about(0, -1), BAD);
        due("above", x.about(0, 8), BAD);
    }

    private static int manWith(PressedMen x, int what, int v) {
        int[] is = {20, 0, 0, 60, 0, 0, 0};
        is[what] = v;
        return x.man(is[0], is[1], is[2], is[3], is[4], is[5], is[6]);
    }

    private static void seamen() {
        sentence("T1 A SEAMAN has 3 YEARS at least");
        PressedMen x = new PressedMen();
        x.ship(0, 20, 0, 0);
        int[] years = {0, 2, 3, 40};
        int[] seamen = {0, 0, 1, 2};
        for (int i = 0; i < years.length; i++) {
            x.board(x.man(20, 0, 0, 60, 0, years[i], 0), 0);
            due("with " + years[i], x.of(0, 6), seamen[i]);
        }
        due("men all of them", x.of(0, 5), 4);
    }

    private static void whereAsOf() {
        sentence("8 WHERE a MAN was as of a TIDE (0 .. now); BAD");
        PressedMen x = port(4, 1);
        due("at tide 0", x.where(0, 0), 0);
        due("a tide to come at tide 0", x.where(0, 1), BAD);
        due("ahead of tide 0", x.where(0, -1), BAD);
        sentence("T1 what comes last on a TIDE counts");
        x.walk(0, 1);
        x.walk(0, 3);
        due("on tide 0", x.where(0, 0), 3);
        x.pass(1);
        due("told by then", x.where(0, 0), 3);
        due("nothing new was told", x.where(0, 1), 3);
        x.walk(0, 2);
        x.walk(0, 3);
        x.walk(0, 1);
        due("on tide 1", x.where(0, 1), 1);
        due("the tide ahead stays", x.where(0, 0), 3);
        passTo(x, 899);
        x.walk(0, 2);
        due("on the last tide", x.where(0, 899), 2);
        due("a tide ahead of it", x.where(0, 898), 1);
        due("behind the last tide", x.where(0, 900), BAD);
        sentence("8 He was at HOME ahead of all");
        manAt(x, 3);
        due("told on the last tide", x.where(1, 0), 3);
        x.run(1);
        due("until he moved", x.where(1, 898), 3);
        due("and then", x.where(1, 899), RUN);
    }

    private static void whereOfOneWhoMovesMuch() {
        sentence("8 WHERE a MAN was as of a TIDE");
        PressedMen x = port(8, 1);
        for (int tide = 1; tide <= 120; tide++) {
            x.pass(1);
            x.walk(0, tide % 8);
        }
        for (int tide = 0; tide <= 120; tide++) {
            due("on tide " + tide + " of 120 with a move on each", x.where(0, tide), tide % 8);
        }
    }

    private static void at() {
        sentence("9 BAD: there is no such number, STREET, SHIP");
        PressedMen x = new PressedMen();
        for (int place = -2; place <= 25; place++) {
            boolean is = (place >= 0 && place <= 3) || (place >= 20 && place <= 23);
            due("place " + place + " at first", x.at(place), is ? 0 : BAD);
        }
        x.streets(8);
        for (int i = 0; i < 10; i++) {
            due("ship " + i + ", not yet told", x.at(10 + i), BAD);
            x.ship(i % 2, 20, 0, 0);
        }
        for (int place = -2; place <= 25; place++) {
            boolean is = place >= 0 && place <= 23 && place != 8 && place != 9;
            due("place " + place + " with all there can be", x.at(place), is ? 0 : BAD);
        }
        due("far below", x.at(Integer.MIN_VALUE), BAD);
        due("what wraps around to a ship", x.at(Integer.MIN_VALUE + 9), BAD);
        due("far above", x.at(Integer.MAX_VALUE), BAD);
        sentence("9 How many MEN are at a place now");
        for (int i = 0; i < 40; i++) {
            manAt(x, 7);
        }
        due("all there can be", x.at(7), 40);
        for (int i = 0; i < 40; i++) {
            x.board(i, 9);
        }
        due("all in the last ship", x.at(19), 40);
        due("none in the street", x.at(7), 0);
    }

    // ---- a tide goes by

    private static void pass() {
        sentence("11 n TIDES (1 .. 60) GO BY; BAD; FULL: above 899");
        PressedMen x = new PressedMen();
        due("at first", x.tide(), 0);
        due("too few", x.pass(0), BAD);
        due("too many", x.pass(61), BAD);
        due("backward", x.pass(-1), BAD);
        due("still", x.tide(), 0);
        due("the fewest", x.pass(1), 1);
        due("the most", x.pass(60), 61);
        passTo(x, 839);
        due("just to the end", x.pass(60), 899);
        due("one beyond it", x.pass(1), FULL);
        due("too few at the end", x.pass(0), BAD);
        due("too many at the end", x.pass(61), BAD);
        due("what would wrap around", x.pass(Integer.MAX_VALUE), BAD);
        due("the last tide", x.tide(), 899);
        PressedMen y = port(1, 1);
        passTo(y, 840);
        sickenAll(y);
        y.take(0, NONE);
        due("one too many to the end", y.pass(60), FULL);
        due("then none went by", y.tide(), 840);
        due("and nothing came of it", y.where(0, 840), TENDER);
        due("the rest to the end", y.pass(59), 899);
        due("now it came", y.where(0, 841), SICK);
    }

    private static void theShyHide() {
        sentence("T4 SHY MEN in STREETS that have HEARD (by that TIDE) go INLAND");
        PressedMen x = new PressedMen();
        x.streets(8);
        chain(x, 7);
        for (int s = 0; s < 8; s++) {
            x.shy(manAt(x, s), true);
            manAt(x, s);
        }
        int taken = manAt(x, 0);
        x.take(taken, NONE);
        due("none on the tide of the taking", x.at(INLAND), 0);
        x.pass(8);
        for (int s = 0; s < 7; s++) {
            int tide = Math.max(1, s);
            due("as far as " + s + ", the tide ahead", x.where(2 * s, tide - 1), s);
            due("as far as " + s + ", the tide", x.where(2 * s, tide), INLAND);
            due("a bold one", x.where(2 * s + 1, 8), s);
        }
        due("where it is never heard", x.where(14, 8), 7);
        due("no others", x.at(INLAND), 7);
        x.walk(14, 6);
        due("who comes there later, that tide", x.where(14, 8), 6);
        x.pass(1);
        due("who comes there later, the next", x.where(14, 9), INLAND);
        x.walk(14, 6);
        x.shy(14, false);
        x.pass(1);
        due("no longer shy", x.where(14, 10), 6);
        x.shy(14, true);
        x.quiet();
        x.pass(5);
        due("when it is quiet", x.where(14, 15), 6);
        due("inland they stay", x.at(INLAND), 7);
    }

    private static void theShyWithoutNews() {
        sentence("T4 in STREETS that have HEARD");
        PressedMen x = new PressedMen();
        x.streets(8);
        chain(x, 8);
        for (int s = 0; s < 8; s++) {
            x.shy(manAt(x, s), true);
        }
        x.pass(60);
        due("of none at all", x.at(INLAND), 0);
        x.ship(1, 1, 0, 0);
        x.board(manAt(x, 0), 0);
        x.take(8, NONE);
        x.pass(60);
        due("of one in a ship alone", x.at(INLAND), 0);
        x.take(0, NONE);
        x.quiet();
        x.pass(60);
        due("of one ahead of the quiet alone", x.at(INLAND), 0);
    }

    private static void theShyElsewhere() {
        sentence("T4 SHY MEN in STREETS");
        PressedMen x = port(1, 6);
        for (int i = 0; i < 5; i++) {
            x.shy(i, true);
        }
        x.ship(0, 1, 0, 0);
        x.ship(1, 1, 0, 0);
        x.board(0, 0);
        x.board(1, 1);
        x.take(2, NONE);
        x.run(3);
        x.pass(1);
        due("in a ship of the king", x.where(0, 1), 10);
        due("in a ship of trade", x.where(1, 1), 11);
        due("in the tender", x.where(2, 1), TENDER);
        due("run", x.where(3, 1), RUN);
        due("in the street", x.where(4, 1), INLAND);
        due("bold", x.where(5, 1), 0);
    }

    private static void sicken(int men, int room, int rate, int want) {
        PressedMen x = port(1, men);
        x.tender(0, room);
        x.tender(1, rate);
        for (int i = 0; i < men; i++) {
            x.take(i, NONE);
        }
        x.pass(1);
        String what = men + " men, room " + room + ", rate " + rate;
        due(what, x.at(SICK), want);
        due(what + ", left", x.at(TENDER), men - want);
    }

    private static void theTenderIsTooFull() {
        sentence("T4 if the TENDER holds more than ROOM, (what is above) times RATE by 100, cut, are SICK");
        sicken(3, 3, 100, 0);
        sicken(2, 3, 100, 0);
        sicken(4, 3, 100, 1);
        sicken(4, 3, 99, 0);
        sicken(0, 0, 100, 0);
        sicken(1, 0, 100, 1);
        sicken(5, 0, 0, 0);
        sicken(3, 1, 50, 1);
        sicken(4, 1, 50, 1);
        sicken(5, 1, 50, 2);
        sicken(3, 0, 33, 0);
        sicken(3, 0, 34, 1);
        sicken(40, 0, 1, 0);
        sicken(40, 0, 2, 0);
        sicken(40, 0, 3, 1);
        sicken(40, 0, 99, 39);
        sicken(40, 0, 100, 40);
        sicken(40, 39, 100, 1);
        sicken(40, 40, 100, 0);
        sentence("T4 ROOM (10 at first), RATE (50 at first)");
        PressedMen x = port(1, 12);
        for (int i = 0; i < 12; i++) {
            x.take(i, NONE);
            if (i == 10) {
                x.pass(1);
                due("eleven: half of one, cut", x.at(SICK), 0);
            }
        }
        x.pass(1);
        due("twelve: half of two", x.at(SICK), 1);
        sentence("T4 the least first");
        due("the least", x.where(0, 2), SICK);
        PressedMen y = port(1, 6);
        for (int i = 5; i > 0; i--) {
            y.take(i, NONE);
        }
        y.tender(0, 3);
        y.tender(1, 100);
        y.pass(1);
        due("who is in a street", y.where(0, 1), 0);
        due("taken last, but the least", y.where(1, 1), SICK);
        due("the least but one", y.where(2, 1), SICK);
        due("the next", y.where(3, 1), TENDER);
        due("taken first, but the last", y.where(5, 1), TENDER);
    }

    private static void theSickGoHome() {
        sentence("T4 those who came to be SICK 10 TIDES ago, and are, are at HOME");
        PressedMen x = port(4, 0);
        manAt(x, 2);
        sickenAll(x);
        x.walk(0, 1);
        x.take(0, NONE);
        x.pass(1);
        due("sick", x.where(0, 1), SICK);
        for (int tide = 2; tide <= 10; tide++) {
            x.pass(1);
            due("on tide " + tide, x.where(0, tide), SICK);
        }
        x.pass(1);
        due("home", x.where(0, 11), 2);
        x.pass(20);
        due("there he stays", x.where(0, 31), 2);
        PressedMen y = port(1, 2);
        sickenAll(y);
        y.take(0, NONE);
        y.pass(60);
        due("in one call, still sick", y.where(0, 10), SICK);
        due("in one call, home", y.where(0, 11), 0);
        y.take(0, NONE);
        y.pass(3);
        y.letGo(0);
        y.take(0, NONE);
        y.pass(8);
        due("ten after he first was, who is sick anew", y.where(0, 71), SICK);
        y.pass(2);
        due("nine after he last was", y.where(0, 73), SICK);
        y.pass(1);
        due("ten after he last was", y.where(0, 74), 0);
        y.take(0, NONE);
        y.pass(5);
        y.letGo(0);
        y.pass(5);
        y.run(0);
        y.pass(1);
        due("ten after, who is run", y.where(0, 85), RUN);
    }

    private static void theOrderInATide() {
        sentence("T4 it is one more. Then SHY MEN ..; then .. are SICK; then those who came to be SICK ..");
        PressedMen x = port(1, 1);
        x.shy(0, true);
        sickenAll(x);
        x.take(0, NONE);
        x.pass(11);
        due("who comes home hides not on that tide", x.where(0, 11), 0);
        x.pass(1);
        due("but on the next", x.where(0, 12), INLAND);
        PressedMen y = port(1, 2);
        sickenAll(y);
        y.take(0, NONE);
        y.pass(10);
        y.take(1, NONE);
        y.pass(1);
        due("one comes home on a tide", y.where(0, 11), 0);
        due("on which another one is sick", y.where(1, 11), SICK);
    }

    // ---- to walk, to run

    /** Men 0 .. 7: in a street, in the tender, sick, in a king's ship, in trade's, in one of each that is out,
        inland; 8 is run. */
    private static PressedMen menEverywhere() {
        PressedMen x = port(4, 9);
        for (int i = 0; i < 4; i++) {
            x.ship(i % 2, 1, 0, 0);
        }
        sickenAll(x);
        x.take(2, NONE);
        x.shy(7, true);
        x.pass(1);
        x.tender(0, 40);
        x.take(1, NONE);
        for (int i = 0; i < 4; i++) {
            x.board(3 + i, i);
        }
        x.sail(2);
        x.sail(3);
        x.run(8);
        return x;
    }

    private static final int[] EVERYWHERE = {0, TENDER, SICK, 10, 11, 12, 13, INLAND, RUN};

    private static void walkAndRun() {
        PressedMen x = menEverywhere();
        sentence("12 A MAN goes to a STREET from a STREET or from INLAND: where he was; STATE: he is elsewhere");
        for (int man = 0; man < 9; man++) {
            due("from " + EVERYWHERE[man], x.where(man, 1), EVERYWHERE[man]);
        }
        due("from a street to the last, without a way", x.walk(0, 3), 0);
        due("to where he is", x.walk(0, 3), 3);
        due("to one that there is not", x.walk(0, 4), UNKNOWN);
        due("to one that there is not, from inland", x.walk(7, -1), UNKNOWN);
        for (int man = 1; man < 9; man++) {
            due("from " + EVERYWHERE[man], x.walk(man, 0), man == 7 ? INLAND : STATE);
            due("then", x.where(man, 1), man == 7 ? 0 : EVERYWHERE[man]);
        }
        sentence("13 TO RUN: from anywhere but RUN: where he was");
        x = menEverywhere();
        for (int man = 0; man < 9; man++) {
            due("from " + EVERYWHERE[man], x.run(man), man == 8 ? STATE : EVERYWHERE[man]);
            due("then", x.where(man, 1), RUN);
            due("from there", x.run(man), STATE);
        }
        due("so many", x.at(RUN), 9);
    }

    // ---- papers

    private static void papers() {
        sentence("14 hair, scar (0 .. 3, NONE), ages, heights (0 .. 99), tides (0 .. 899), from no more than to");
        PressedMen x = port(1, 1);
        due("the least", x.paper(0, 0, 0, 0, 0, 0, 0, 0, 0), 0);
        due("the most", x.paper(0, 3, 3, 99, 99, 99, 99, 899, 899), 1);
        due("the widest", x.paper(0, NONE, NONE, 0, 99, 0, 99, 0, 899), 2);
        due("hair below", x.paper(0, -1, 0, 0, 0, 0, 0, 0, 0), BAD);
        due("hair above", x.paper(0, 4, 0, 0, 0, 0, 0, 0, 0), BAD);
        due("scar below", x.paper(0, 0, -1, 0, 0, 0, 0, 0, 0), BAD);
        due("scar above", x.paper(0, 0, 4, 0, 0, 0, 0, 0, 0), BAD);
        due("hair next to NONE", x.paper(0, -8, 0, 0, 0, 0, 0, 0, 0), BAD);
        due("scar next to NONE", x.paper(0, 0, -10, 0, 0, 0, 0, 0, 0), BAD);
        due("age below", x.paper(0, 0, 0, -1, 0, 0, 0, 0, 0), BAD);
        due("age above", x.paper(0, 0, 0, 0, 100, 0, 0, 0, 0), BAD);
        due("ages from more than to", x.paper(0, 0, 0, 1, 0, 0, 0, 0, 0), BAD);
        due("height below", x.paper(0, 0, 0, 0, 0, -1, 0, 0, 0), BAD);
        due("height above", x.paper(0, 0, 0, 0, 0, 0, 100, 0, 0), BAD);
        due("heights from more than to", x.paper(0, 0, 0, 0, 0, 1, 0, 0, 0), BAD);
        due("tide below", x.paper(0, 0, 0, 0, 0, 0, 0, -1, 0), BAD);
        due("tide above", x.paper(0, 0, 0, 0, 0, 0, 0, 0, 900), BAD);
        due("tides from more than to", x.paper(0, 0, 0, 0, 0, 0, 0, 1, 0), BAD);
        due("both tides above", x.paper(0, 0, 0, 0, 0, 0, 0, 900, 900), BAD);
        due("both ages above", x.paper(0, 0, 0, 100, 100, 0, 0, 0, 0), BAD);
        due("both heights below", x.paper(0, 0, 0, 0, 0, -2, -1, 0, 0), BAD);
        due("NONE is no age", x.paper(0, 0, 0, NONE, NONE, 0, 0, 0, 0), BAD);
        due("no more of them", x.count(2), 3);
        sentence("T2 PAPERS 0, 1, .. (60 at most); 14 FULL");
        for (int i = 3; i < 60; i++) {
            due("paper " + i, x.paper(0, NONE, NONE, 0, 99, 0, 99, i, i), i);
        }
        due("one more", x.paper(0, NONE, NONE, 0, 99, 0, 99, 0, 899), FULL);
        due("so many", x.count(2), 60);
        due("the last is good on its tide", x.cover(59, 0, 59), 1);
        due("and was not overwritten", x.cover(59, 0, 58), 0);
        due("none behind it", x.cover(60, 0, 59), UNKNOWN);
    }

    /** What a paper for hair 1 and scar 2 covers of a man of 30 and of height 65 with them. */
    private static int covers(int ageFrom, int ageTo, int heightFrom, int heightTo) {
        PressedMen x = new PressedMen();
        x.man(30, 1, 2, 65, 0, 0, 0);
        x.paper(0, 1, 2, ageFrom, ageTo, heightFrom, heightTo, 0, 0);
        return x.cover(0, 0, 0);
    }

    private static void cover() {
        sentence("T2 0 not: he is otherwise");
        due("his age is the least", covers(30, 31, 65, 65), 2);
        due("his age is below", covers(31, 32, 65, 65), 0);
        due("his age is the most", covers(29, 30, 65, 65), 2);
        due("his age is above", covers(28, 29, 65, 65), 0);
        due("his height is the least", covers(30, 30, 65, 66), 2);
        due("his height is below", covers(30, 30, 66, 67), 0);
        due("his height is the most", covers(30, 30, 64, 65), 2);
        due("his height is above", covers(30, 30, 63, 64), 0);
        sentence("T2 2 SURE: AGES are 5 apart at most, HEIGHTS 2 at most; else 1 MAY BE");
        due("none apart", covers(30, 30, 65, 65), 2);
        due("ages 5 apart, heights 2", covers(26, 31, 64, 66), 2);
        due("ages 6 apart", covers(25, 31, 65, 65), 1);
        due("heights 3 apart", covers(30, 30, 63, 66), 1);
        due("both", covers(25, 31, 63, 66), 1);
        due("all there are", covers(0, 99, 0, 99), 1);
        sentence("T2 a HAIR or SCAR that is NONE fits all");
        PressedMen x = new PressedMen();
        for (int hair = 0; hair < 4; hair++) {
            for (int scar = 0; scar < 4; scar++) {
                x.man(30, hair, scar, 65, 0, 0, 0);
            }
        }
        x.paper(0, NONE, 2, 30, 30, 65, 65, 4, 6);
        x.paper(0, 1, NONE, 30, 30, 65, 65, 4, 6);
        x.paper(0, NONE, NONE, 30, 30, 65, 65, 4, 6);
        x.paper(0, 3, 0, 30, 30, 65, 65, 4, 6);
        for (int man = 0; man < 16; man++) {
            due("no hair", x.cover(0, man, 5), man % 4 == 2 ? 1 : 0);
            due("no scar", x.cover(1, man, 5), man / 4 == 1 ? 1 : 0);
            due("neither", x.cover(2, man, 5), 1);
            due("both", x.cover(3, man, 5), man == 12 ? 2 : 0);
        }
        sentence("T2 0 not: it is not in those TIDES");
        due("the tide ahead", x.cover(3, 12, 3), 0);
        due("the first tide", x.cover(3, 12, 4), 2);
        due("the last tide", x.cover(3, 12, 6), 2);
        due("the tide behind", x.cover(3, 12, 7), 0);
        sentence("15 on a TIDE (0 .. 899); UNKNOWN; BAD");
        x.paper(0, NONE, NONE, 0, 99, 0, 99, 0, 899);
        due("the first", x.cover(4, 0, 0), 1);
        due("the last, long to come", x.cover(4, 0, 899), 1);
        due("ahead", x.cover(4, 0, -1), BAD);
        due("behind", x.cover(4, 0, 900), BAD);
        due("NONE is no paper", x.cover(NONE, 0, 0), UNKNOWN);
        sentence("16 How many MEN it COVERS on a TIDE");
        due("all", x.same(2, 4), 16);
        due("by the scar alone", x.same(0, 6), 4);
        due("but one", x.same(3, 5), 1);
        due("none on the tide behind", x.same(2, 7), 0);
        due("none on the tide ahead", x.same(2, 3), 0);
        due("the last tide", x.same(4, 899), 16);
        due("ahead", x.same(4, -1), BAD);
        due("behind", x.same(4, 900), BAD);
    }

    private static void coverNobody() {
        sentence("16 How many MEN it COVERS");
        PressedMen x = port(1, 1);
        x.paper(0, NONE, NONE, 0, 9, 0, 99, 0, 899);
        x.paper(0, NONE, NONE, 61, 99, 0, 99, 0, 899);
        x.paper(0, 0, 0, 20, 20, 60, 60, 0, 0);
        due("ages that no man has", x.same(0, 0), 0);
        due("nor these", x.same(1, 0), 0);
        due("himself", x.same(2, 0), 1);
        for (int i = 1; i < 40; i++) {
            manAt(x, 0);
        }
        due("all there can be", x.same(2, 0), 40);
    }

    private static void shown() {
        sentence("17 within 14 TIDES up to a TIDE (that TIDE and 13 ahead)");
        PressedMen x = port(1, 3);
        x.paper(0, NONE, NONE, 0, 99, 0, 99, 0, 899);
        x.paper(0, NONE, NONE, 0, 99, 0, 99, 0, 899);
        due("none yet", x.shown(0, 0), 0);
        x.pass(5);
        x.take(0, 0);
        due("the tide ahead", x.shown(0, 4), 0);
        due("that tide", x.shown(0, 5), 1);
        due("13 behind", x.shown(0, 18), 1);
        due("14 behind", x.shown(0, 19), 0);
        due("another paper", x.shown(1, 5), 0);
        sentence("17 How many unlike MEN");
        x.letGo(0);
        x.take(0, 0);
        due("one twice", x.shown(0, 5), 1);
        x.take(1, 0);
        due("two", x.shown(0, 5), 2);
        x.take(2, NONE);
        due("who showed none", x.shown(0, 5), 2);
        passTo(x, 899);
        x.letGo(0);
        x.take(0, 0);
        due("on the last tide", x.shown(0, 899), 1);
        due("the first tide", x.shown(0, 0), 0);
        due("behind the last", x.shown(0, 900), BAD);
        due("ahead of the first", x.shown(0, -1), BAD);
        PressedMen y = port(1, 40);
        y.paper(0, 3, 3, 0, 0, 0, 0, 899, 899);
        for (int i = 0; i < 40; i++) {
            y.take(i, 0);
        }
        due("all there can be", y.shown(0, 0), 40);
        due("on tide 13", y.shown(0, 13), 40);
        due("on tide 14", y.shown(0, 14), 0);
    }

    // ---- acts

    private static void acts() {
        sentence("18 An ACT, in force from a TIDE (0 .. 899); BAD; T3 ACTS 0, 1, .. (8 at most); FULL");
        PressedMen x = port(1, 1);
        due("ahead", x.act(-1), BAD);
        due("behind", x.act(900), BAD);
        due("none of them is there", x.count(3), 0);
        due("the first tide", x.act(0), 0);
        due("the last tide", x.act(899), 1);
        for (int i = 2; i < 8; i++) {
            due("act " + i, x.act(i), i);
        }
        due("one more", x.act(0), FULL);
        due("so many", x.count(3), 8);
        x.sign(7, 'h');
        due("the last is there", x.force(7), 7);
        due("none behind it", x.sign(8, 'h'), UNKNOWN);
        due("nor ahead of the first", x.sign(-1, 'h'), UNKNOWN);
        sentence("T3 SIGNS (none at first)");
        due("at fault where it begins", x.fault(0), 0);
        due("so never in force", x.force(0), NONE);
        sentence("19 BAD: it is not 33 .. 126");
        due("below", x.sign(0, 32), BAD);
        due("above", x.sign(0, 127), BAD);
        due("the least", x.sign(0, 33), 1);
        due("the most", x.sign(0, 126), 2);
        due("a sign in more bits", x.sign(0, 256 + 'p'), BAD);
        due("how many there are", x.sign(0, 'p'), 3);
        sentence("T3 SIGNS (60 at most); 19 FULL");
        for (int i = 4; i <= 60; i++) {
            due("sign " + i, x.sign(0, '!'), i);
        }
        due("one more", x.sign(0, 'p'), FULL);
        due("the fault stays", x.fault(0), 1);
    }

    private static void fault(String text, int want) {
        PressedMen x = new PressedMen();
        due("of " + (text.isEmpty() ? "none" : text), x.fault(enact(x, 0, text)), want);
    }

    private static void faults() {
        sentence("T3 TESTS: a, A, y, Y, t with two digits; p; s; h");
        for (char test : "aAyYt".toCharArray()) {
            fault(test + "", 1);
            fault(test + "0", 2);
            fault(test + "00", NONE);
            fault(test + "99", NONE);
            fault(test + "000", 3);
            fault(test + "/0", 1);
            fault(test + ":0", 1);
            fault(test + "0/", 2);
            fault(test + "0:", 2);
            fault(test + "p", 1);
            fault(test + "0p", 2);
        }
        for (char test : "psh".toCharArray()) {
            fault(test + "", NONE);
            fault(test + "0", 1);
            fault(test + "" + test, 1);
        }
        for (char sign = 33; sign <= 126; sign++) {
            boolean begins = "&|!aAyYtpsh".indexOf(sign) >= 0;
            boolean whole = "psh".indexOf(sign) >= 0;
            fault(sign + "", whole ? NONE : begins ? 1 : 0);
        }
        sentence("T3 A TEXT: & TEXT TEXT, or | TEXT TEXT, or ! TEXT, or a TEST");
        fault("&", 1);
        fault("&p", 2);
        fault("&pp", NONE);
        fault("&ppp", 3);
        fault("|", 1);
        fault("|p", 2);
        fault("|ps", NONE);
        fault("|psh", 3);
        fault("!", 1);
        fault("!p", NONE);
        fault("!pp", 2);
        fault("p!", 1);
        fault("p&", 1);
        fault("&p&s|h!a01", NONE);
        fault("&p&s|h!a0", 9);
        sentence("T3 The FAULT: how many there are: at the end; the first SIGN; what stands behind a TEXT is one");
        fault("", 0);
        fault("##", 0);
        fault("&#p#", 1);
        fault("p##", 1);
        String longest = "&".repeat(29) + "p".repeat(30);
        fault(longest, NONE);
        fault("!" + longest, NONE);
        fault(longest + "p", 59);
        fault("&" + longest, 60);
        fault("!".repeat(60), 60);
        fault("!".repeat(59) + "p", NONE);
        fault("&".repeat(60), 60);
        fault("!".repeat(57) + "a00", NONE);
        fault("!".repeat(58) + "a0", 60);
        sentence("20 The FAULT of an ACT; NONE. UNKNOWN");
        PressedMen x = new PressedMen();
        due("no act", x.fault(0), UNKNOWN);
        x.act(0);
        x.sign(0, '#');
        x.sign(0, 'p');
        due("it is not mended by what comes behind", x.fault(0), 0);
    }

    private static void force() {
        sentence("T3 in force on a TIDE is that of the latest TIDE no later, of like ones the last told");
        PressedMen x = new PressedMen();
        due("no act", x.force(0), NONE);
        enact(x, 899, "p");
        enact(x, 5, "p");
        enact(x, 5, "s");
        enact(x, 0, "h");
        enact(x, 4, "#");
        due("the first tide", x.force(0), 3);
        due("ahead of a later one; one with a fault is never", x.force(4), 3);
        due("its first tide, of like ones the last told", x.force(5), 2);
        due("ahead of the last tide", x.force(898), 2);
        due("the last tide", x.force(899), 0);
        x.sign(2, 's');
        due("of like ones one with a fault", x.force(5), 1);
        x.sign(1, 's');
        due("both with faults", x.force(5), 3);
        sentence("21 on a TIDE (0 .. 899); BAD");
        due("ahead", x.force(-1), BAD);
        due("behind", x.force(900), BAD);
        sentence("T3 none in force: nobody may");
        PressedMen y = port(1, 1);
        enact(y, 1, "!p");
        due("as shown, the tide ahead", y.may(0, NONE), 0);
        due("in truth, the tide ahead", y.mayTruly(0), 0);
        due("met, the tide ahead", y.met(2, 3), 0);
        y.pass(1);
        due("as shown, that tide", y.may(0, NONE), 1);
        due("in truth, that tide", y.mayTruly(0), 1);
        due("met, that tide", y.met(2, 3), 1);
    }

    private static void holds(String text, int age, int trade, int years, int want) {
        PressedMen x = new PressedMen();
        x.man(age, 0, 0, 60, trade, years, 0);
        enact(x, 0, text);
        due(text + " of " + age + ", " + trade + ", " + years, x.may(0, NONE), want);
        due(text + " in truth", x.mayTruly(0), want);
    }

    private static void tests() {
        sentence("T3 AGE at least, AGE below");
        holds("a10", 10, 0, 0, 1);
        holds("a11", 10, 0, 0, 0);
        holds("a60", 60, 0, 0, 1);
        holds("a61", 60, 0, 0, 0);
        holds("a00", 10, 0, 0, 1);
        holds("a99", 60, 0, 0, 0);
        holds("A10", 10, 0, 0, 0);
        holds("A11", 10, 0, 0, 1);
        holds("A60", 60, 0, 0, 0);
        holds("A61", 60, 0, 0, 1);
        holds("A00", 10, 0, 0, 0);
        holds("A99", 60, 0, 0, 1);
        sentence("T3 YEARS at least, YEARS below");
        holds("y00", 20, 0, 0, 1);
        holds("y01", 20, 0, 0, 0);
        holds("y40", 20, 0, 40, 1);
        holds("y41", 20, 0, 40, 0);
        holds("Y00", 20, 0, 0, 0);
        holds("Y01", 20, 0, 0, 1);
        holds("Y40", 20, 0, 40, 0);
        holds("Y41", 20, 0, 40, 1);
        sentence("T3 TRADE is that");
        holds("t00", 20, 0, 0, 1);
        holds("t01", 20, 0, 0, 0);
        holds("t05", 20, 5, 0, 1);
        holds("t50", 20, 5, 0, 0);
        holds("t15", 20, 5, 0, 0);
        holds("t04", 20, 5, 0, 0);
        sentence("T3 if the TEXT holds");
        for (int bits = 0; bits < 4; bits++) {
            String a = bits % 2 == 1 ? "a00" : "A00";
            String b = bits / 2 == 1 ? "y00" : "Y00";
            holds("&" + a + b, 20, 0, 5, bits == 3 ? 1 : 0);
            holds("|" + a + b, 20, 0, 5, bits > 0 ? 1 : 0);
            holds("!" + a, 20, 0, 5, 1 - bits % 2);
            holds("&!" + a + b, 20, 0, 5, bits == 2 ? 1 : 0);
            holds("|" + a + "!" + b, 20, 0, 5, bits == 2 ? 0 : 1);
        }
        holds("&".repeat(29) + "h".repeat(30), 20, 0, 5, 1);
        holds("&".repeat(29) + "p" + "h".repeat(29), 20, 0, 5, 0);
        holds("&".repeat(29) + "h".repeat(29) + "p", 20, 0, 5, 0);
        holds("|".repeat(29) + "p".repeat(30), 20, 0, 5, 0);
        holds("|".repeat(29) + "p".repeat(29) + "h", 20, 0, 5, 1);
        holds("|".repeat(29) + "h" + "p".repeat(29), 20, 0, 5, 1);
        holds("&h".repeat(29) + "h", 20, 0, 5, 1);
        holds("&h".repeat(29) + "p", 20, 0, 5, 0);
        holds("!".repeat(59) + "p", 20, 0, 5, 1);
        holds("!".repeat(58) + "p", 20, 0, 5, 0);
        holds("!".repeat(59) + "p" + "#", 20, 0, 5, 1);
    }

    private static void testsOfPlaces() {
        sentence("T3 s: he is in a SHIP; h: in the STREET that is his HOME");
        PressedMen x = menEverywhere();
        int act = enact(x, 0, "s");
        due("s is in force", x.force(1), act);
        for (int man = 0; man < 9; man++) {
            due("s, from " + EVERYWHERE[man], x.mayTruly(man), man >= 3 && man <= 6 ? 1 : 0);
        }
        enact(x, 0, "h");
        for (int man = 0; man < 9; man++) {
            due("h, from " + EVERYWHERE[man], x.mayTruly(man), man == 0 ? 1 : 0);
        }
        x.walk(0, 1);
        due("h, from another street", x.mayTruly(0), 0);
        x.walk(0, 0);
        due("h, at home again", x.may(0, NONE), 1);
    }

    private static void covered() {
        sentence("T3 COVERED by what he SHOWS: a PAPER that COVERS him then (1 or 2)");
        PressedMen x = port(1, 2);
        enact(x, 0, "p");
        x.paper(1, 0, 0, 20, 20, 60, 60, 1, 2);
        x.paper(1, NONE, NONE, 20, 20, 60, 60, 1, 2);
        x.paper(0, 1, NONE, 20, 20, 60, 60, 0, 899);
        due("none", x.may(0, NONE), 0);
        due("the tide ahead", x.may(0, 0), 0);
        x.pass(1);
        due("sure, though another's", x.may(0, 0), 1);
        due("may be", x.may(0, 1), 1);
        due("not", x.may(0, 2), 0);
        sentence("T3 COVERED IN TRUTH: some PAPER that was given to him COVERS him then");
        due("another's are not his", x.mayTruly(0), 0);
        due("two of his", x.mayTruly(1), 1);
        x.pass(1);
        due("the last tide", x.mayTruly(1), 1);
        due("the last tide, shown", x.may(0, 0), 1);
        x.pass(1);
        due("the tide behind", x.mayTruly(1), 0);
        due("the tide behind, shown", x.may(0, 0), 0);
        for (int i = 3; i < 59; i++) {
            x.paper(0, 1, 1, 20, 20, 60, 60, 0, 899);
        }
        x.paper(0, 0, 0, 20, 20, 60, 60, 3, 3);
        due("the last of sixty", x.mayTruly(0), 1);
        due("the last of sixty, shown", x.may(0, 59), 1);
        PressedMen y = port(1, 2);
        enact(y, 0, "p");
        y.paper(0, NONE, NONE, 20, 20, 60, 60, 0, 0);
        y.paper(1, 0, 0, 20, 20, 60, 60, 0, 0);
        due("by one that may be", y.mayTruly(0), 1);
        due("by one that is sure", y.mayTruly(1), 1);
        sentence("22, 23 UNKNOWN");
        due("no such paper", x.may(0, 60), UNKNOWN);
        due("nor ahead of the first", x.may(0, -1), UNKNOWN);
        due("no such man", x.may(2, NONE), UNKNOWN);
        due("no such man, in truth", x.mayTruly(2), UNKNOWN);
        due("NONE is no man", x.mayTruly(NONE), UNKNOWN);
    }

    // ---- takings, news

    private static void take() {
        sentence("T4 TO TAKE a MAN who is in a STREET, or in a SHIP of TRADE AT HOME; 24 STATE: he is elsewhere");
        PressedMen x = menEverywhere();
        int taking = x.count(4);
        for (int man = 0; man < 9; man++) {
            boolean can = man == 0 || man == 4;
            due("from " + EVERYWHERE[man], x.take(man, NONE), can ? taking++ : STATE);
            due("then", x.where(man, 1), can ? TENDER : EVERYWHERE[man]);
        }
        due("so many", x.count(4), taking);
        due("from where", x.taking(taking - 1, 3), 11);
        x.comeHome(3);
        due("from trade come home", x.take(6, NONE), taking);
        x.comeHome(2);
        due("from the king's come home", x.take(5, NONE), STATE);
        x.walk(7, 3);
        due("who was inland", x.take(7, NONE), taking + 1);
        due("from the last street", x.taking(taking + 1, 3), 3);
        sentence("T4 a TAKING (0, 1, .. ; 60 at most); 24 FULL");
        PressedMen y = port(1, 2);
        for (int i = 0; i < 60; i++) {
            due("taking " + i, y.take(0, NONE), i);
            y.letGo(0);
        }
        due("one more", y.take(0, NONE), FULL);
        due("of another", y.take(1, NONE), FULL);
        due("they stay", y.at(0), 2);
        due("so many", y.count(4), 60);
        due("the last is there", y.taking(59, 3), 0);
        due("none behind it", y.taking(60, 3), UNKNOWN);
        sentence("25 what 0 .. 5; BAD");
        due("below", y.taking(0, -1), BAD);
        due("above", y.taking(0, 6), BAD);
        due("none ahead of the first", y.taking(-1, 0), UNKNOWN);
    }

    private static void takenRightly() {
        sentence("T4 whether it was RIGHT by what he SHOWED, and IN TRUTH");
        PressedMen x = port(1, 4);
        x.paper(0, 0, 0, 20, 20, 60, 60, 0, 0);
        x.paper(1, 3, 3, 20, 20, 60, 60, 0, 899);
        due("none in force", x.take(3, NONE), 0);
        enact(x, 0, "!p");
        x.take(0, NONE);
        x.take(1, 0);
        x.take(2, 1);
        int[][] want = {{0, 3, NONE, 0, 0, 0}, {0, 0, NONE, 0, 1, 0}, {0, 1, 0, 0, 0, 1}, {0, 2, 1, 0, 1, 1}};
        for (int i = 0; i < want.length; i++) {
            for (int what = 0; what < 6; what++) {
                due("taking " + i + ", " + what, x.taking(i, what), want[i][what]);
            }
        }
        passTo(x, 899);
        enact(x, 899, "p");
        due("what comes later changes it not", x.taking(1, 4), 1);
        x.letGo(2);
        x.take(2, NONE);
        due("on the last tide", x.taking(4, 0), 899);
    }

    private static void wronged() {
        sentence("T4 WRONGED: last TAKING not RIGHT IN TRUTH, and in the TENDER, SICK, or in a SHIP of THE KING");
        PressedMen x = port(2, 8);
        due("nobody", x.wronged(), 0);
        due("nobody, the first", x.wrongedMan(0), NONE);
        for (int i = 0; i < 4; i++) {
            x.ship(i % 2, 1, 0, 0);
        }
        x.board(7, 0);
        due("who was never taken", x.wronged(), 0);
        for (int i = 0; i < 7; i++) {
            x.take(i, NONE);
        }
        due("in the tender", x.wronged(), 7);
        x.turn(1, 0);
        x.turn(2, 1);
        x.turn(3, 2);
        x.turn(4, 3);
        due("not in trade's ships", x.wronged(), 5);
        x.sail(2);
        x.sail(3);
        due("in the king's that is out", x.wronged(), 5);
        x.letGo(5);
        x.run(6);
        due("not at home, not run", x.wronged(), 3);
        sickenAll(x);
        x.pass(1);
        due("sick", x.wronged(), 3);
        sentence("27 The i-th MAN of these; NONE");
        due("the first", x.wrongedMan(0), 0);
        due("the second", x.wrongedMan(1), 1);
        due("the last", x.wrongedMan(2), 3);
        due("behind the last", x.wrongedMan(3), NONE);
        due("ahead of the first", x.wrongedMan(-1), NONE);
        due("far ahead", x.wrongedMan(Integer.MIN_VALUE), NONE);
        due("far behind", x.wrongedMan(Integer.MAX_VALUE), NONE);
        x.pass(10);
        due("sick no more", x.wrongedMan(0), 1);
        enact(x, 0, "h");
        x.take(0, NONE);
        due("not whose last was right", x.wrongedMan(0), 1);
        x.letGo(0);
        x.walk(0, 1);
        x.take(0, NONE);
        due("but whose last was not", x.wrongedMan(0), 0);
        PressedMen y = port(1, 40);
        for (int i = 0; i < 40; i++) {
            y.take(i, NONE);
        }
        due("all there can be", y.wronged(), 40);
        due("the last of them", y.wrongedMan(39), 39);
        due("none behind", y.wrongedMan(40), NONE);
    }

    private static void letGo() {
        sentence("T4 To LET GO a MAN in the TENDER, SICK or in a SHIP AT HOME: he is at HOME; 28 STATE");
        PressedMen x = menEverywhere();
        for (int man = 0; man < 9; man++) {
            boolean can = man >= 1 && man <= 4;
            due("from " + EVERYWHERE[man], x.letGo(man), can ? EVERYWHERE[man] : STATE);
            due("then", x.where(man, 1), can ? 0 : EVERYWHERE[man]);
        }
        x.comeHome(2);
        x.comeHome(3);
        due("when the king's came home", x.letGo(5), 12);
        due("when trade's came home", x.letGo(6), 13);
        due("who is at home", x.letGo(6), STATE);
        PressedMen y = new PressedMen();
        manAt(y, 3);
        y.walk(0, 1);
        y.take(0, NONE);
        y.letGo(0);
        due("not where he was taken", y.where(0, 0), 3);
    }

    private static void news() {
        sentence("T4 HEARD of a STREET: the first TIDE by which it HEARD of one (also one to come)");
        PressedMen x = new PressedMen();
        x.streets(8);
        chain(x, 7);
        manAt(x, 0);
        manAt(x, 6);
        for (int s = 0; s < 8; s++) {
            due("of none, in " + s, x.heard(s), NONE);
        }
        x.take(0, NONE);
        for (int s = 0; s < 8; s++) {
            due("of one on tide 0, in " + s, x.heard(s), s == 7 ? NONE : s);
        }
        x.pass(2);
        x.take(1, NONE);
        for (int s = 0; s < 7; s++) {
            due("of two, in " + s, x.heard(s), Math.min(s, 2 + 6 - s));
        }
        due("a street that there is not", x.heard(8), UNKNOWN);
        due("NONE is no street", x.heard(NONE), UNKNOWN);
        sentence("29 how many TAKINGS in STREETS since; T4 since it was last QUIET");
        x.ship(1, 1, 0, 0);
        x.letGo(0);
        x.board(0, 0);
        x.take(0, NONE);
        due("not those in ships", x.quiet(), 2);
        due("none since", x.quiet(), 0);
        for (int s = 0; s < 8; s++) {
            due("of none since, in " + s, x.heard(s), NONE);
        }
        x.letGo(0);
        x.take(0, NONE);
        due("of one since", x.heard(6), 8);
        due("one since", x.quiet(), 1);
        x.letGo(0);
        passTo(x, 899);
        x.take(0, NONE);
        due("on the last tide", x.heard(0), 899);
        due("behind the last tide", x.heard(6), 905);
        PressedMen y = port(1, 1);
        for (int i = 0; i < 60; i++) {
            y.take(0, NONE);
            y.letGo(0);
        }
        y.take(0, NONE);
        due("all there can be", y.quiet(), 60);
        due("and none of them any more", y.heard(0), NONE);
    }

    private static void tender() {
        sentence("31 ROOM (0 .. 40; 10 at first), RATE (0 .. 100; 50 at first): what it was. BAD");
        PressedMen x = new PressedMen();
        due("room at first", x.tender(0, 0), 10);
        due("room, the least", x.tender(0, 40), 0);
        due("room, the most", x.tender(0, 40), 40);
        due("rate at first", x.tender(1, 0), 50);
        due("rate, the least", x.tender(1, 100), 0);
        due("rate, the most", x.tender(1, 100), 100);
        due("room below", x.tender(0, -1), BAD);
        due("room above", x.tender(0, 41), BAD);
        due("rate below", x.tender(1, -1), BAD);
        due("rate above", x.tender(1, 101), BAD);
        due("neither", x.tender(2, 5), BAD);
        due("ahead of both", x.tender(-1, 5), BAD);
        due("room as it was", x.tender(0, 40), 40);
        due("rate as it was", x.tender(1, 100), 100);
    }

    // ---- gangs

    /** Whoever is at home may be taken; a man's home for each number. */
    private static PressedMen town(int streets, int... homes) {
        PressedMen x = new PressedMen();
        x.streets(streets);
        for (int home : homes) {
            manAt(x, home);
        }
        enact(x, 0, "h");
        return x;
    }

    private static void lies(String what, PressedMen x, int gangs, int h, int... streets) {
        for (int i = 0; i < streets.length; i++) {
            due(what + ", gang " + i / h + " step " + i % h, x.laid(gangs, h, i / h, i % h), streets[i]);
        }
    }

    private static void gangs() {
        sentence("T5 GANGS (1 or 2) for h TIDES (1 .. 3); 32, 33 BAD: gangs, h, gang, step");
        PressedMen x = town(1);
        for (int gangs = 0; gangs <= 3; gangs++) {
            for (int h = 0; h <= 4; h++) {
                boolean can = gangs >= 1 && gangs <= 2 && h >= 1 && h <= 3;
                due("met(" + gangs + ", " + h + ")", x.met(gangs, h), can ? 0 : BAD);
                for (int gang = -1; gang <= 2; gang++) {
                    for (int step = -1; step <= 3; step++) {
                        boolean is = can && gang >= 0 && gang < gangs && step >= 0 && step < h;
                        due("laid(" + gangs + ", " + h + ", " + gang + ", " + step + ")",
                                x.laid(gangs, h, gang, step), is ? 0 : BAD);
                    }
                }
            }
        }
        sentence("T5 all MEN who are now in the STREETS where they are and MAY BE TAKEN in truth (now)");
        PressedMen y = town(8);
        due("nobody", y.met(2, 3), 0);
        lies("nobody", y, 2, 3, 0, 0, 0, 0, 0, 0);
        for (int i = 0; i < 40; i++) {
            manAt(y, 7);
        }
        due("all there can be", y.met(1, 1), 40);
        lies("all in the last street", y, 1, 1, 7);
        lies("all in the last street, without a way", y, 2, 3, 0, 0, 0, 7, 7, 7);
        y.walk(0, 6);
        due("who may not be taken", y.met(2, 3), 39);
        y.take(1, NONE);
        y.run(2);
        due("who are in no street", y.met(2, 3), 37);
        for (int i = 3; i < 40; i++) {
            y.walk(i, i % 7);
        }
        due("nobody who may", y.met(2, 3), 0);
        lies("nobody who may", y, 2, 2, 0, 0, 0, 0);
    }

    private static void metOnce() {
        sentence("T5 They MEET .. each once");
        PressedMen x = town(1, 0, 0, 0);
        for (int h = 1; h <= 3; h++) {
            due("one gang, " + h, x.met(1, h), 3);
            due("two gangs in one street, " + h, x.met(2, h), 3);
        }
        PressedMen y = town(3, 1, 1, 2);
        due("the two in two streets", y.met(2, 1), 3);
        lies("the two in two streets", y, 2, 1, 1, 2);
        sentence("T5 of like ones the first by STREETS: of gang 0 step by step, then of gang 1");
        due("the most is in the last", town(3, 0, 1, 1, 2, 2, 2).met(2, 1), 5);
        due("the most is in the first", town(3, 0, 0, 0, 1, 1, 2).met(2, 1), 5);
        due("the most is in the middle", town(3, 0, 1, 1, 1, 2, 2).met(2, 1), 5);
        PressedMen z = town(4, 1, 2, 3);
        lies("three alike", z, 2, 1, 1, 2);
        lies("three alike, one gang", z, 1, 3, 1, 1, 1);
        PressedMen w = town(2, 0);
        lies("one of them is enough", w, 2, 1, 0, 0);
        PressedMen v = town(2, 1);
        lies("gang 0 comes first", v, 2, 1, 0, 1);
    }

    private static void heardInALaying() {
        sentence("T5 none in a STREET that has HEARD: as many steps ago as it is FAR, or more");
        // Streets 0 - 1 with men in both: what is met in one is heard in the other one step later.
        PressedMen near = town(2, 0, 1);
        near.way(0, 1, true);
        lies("1 far, one step ago", near, 2, 2, 0, 0, 1, 0);
        due("both in step 0", near.met(2, 2), 2);
        // Men in 0 and 2 of 0 - 1 - 2: gang 1 may come from 1, one step later, but not two.
        PressedMen two = town(3, 0, 2);
        chain(two, 3);
        lies("2 far, one step ago", two, 2, 2, 0, 0, 1, 2);
        lies("2 far, two steps ago", two, 2, 3, 0, 0, 0, 1, 2, 1);
        // Men in 0 and 3 of 0 - 1 - 2 - 3: two steps later it is still not heard.
        PressedMen three = town(4, 0, 3);
        chain(three, 4);
        lies("3 far, two steps ago", three, 2, 3, 0, 0, 0, 1, 2, 3);
        // Men in 1 and 2 of 0 - 1 - 2: who waits in 0 comes too late to 1, for 2 is 1 far from it.
        PressedMen late = town(3, 1, 2);
        chain(late, 3);
        lies("1 far, one step ago, from behind", late, 2, 2, 1, 0, 2, 1);
        lies("1 far, two steps ago", late, 2, 3, 1, 0, 0, 2, 1, 0);
        due("1 far, two steps ago, both", late.met(2, 3), 2);
        // Men in 2 and 4 of 0 - 1 - 2 - 5 - 4: met in 4 in step 1, it is not heard in 2 in step 2.
        PressedMen later = town(6, 2, 4);
        later.way(0, 1, true);
        later.way(1, 2, true);
        later.way(2, 5, true);
        later.way(5, 4, true);
        lies("2 far, from step 1 to step 2", later, 2, 3, 0, 1, 2, 5, 4, 4);
        // Streets that hang not together never hear.
        PressedMen apart = town(4, 0, 3);
        apart.way(2, 3, true);
        lies("not together", apart, 2, 3, 0, 0, 0, 2, 2, 3);
        sentence("T5 of a STREET where any was MET");
        // Gang 0 waits in 0, where there is nobody to meet: no news of it is heard in 1.
        PressedMen none = town(2, 1);
        none.way(0, 1, true);
        lies("where none was met there is no news", none, 2, 3, 0, 0, 0, 0, 0, 1);
        due("he is met in the last step", none.met(1, 3), 1);
        lies("one gang comes to him last", none, 1, 3, 0, 0, 1);
        sentence("T5 in each next step in that or in one to which there is a WAY");
        none.way(0, 1, false);
        lies("no way", none, 1, 3, 1, 1, 1);
        PressedMen long2 = town(4, 3);
        chain(long2, 4);
        lies("two ways in three steps", long2, 1, 3, 1, 2, 3);
        lies("one way in two steps", long2, 1, 2, 2, 3);
        lies("none in one", long2, 1, 1, 3);
        sentence("T5 news of TAKINGS is not of the laying");
        PressedMen news = town(2, 0, 0, 1);
        news.take(0, NONE);
        due("who is in a street that heard", news.met(2, 1), 2);
    }

    // ---- ships

    private static void ships() {
        sentence("34 kind (0, 1), need (1 .. 20), seamen (0 .. NEED), least (0 .. 20); BAD");
        PressedMen x = new PressedMen();
        due("the least", x.ship(0, 1, 0, 0), 0);
        due("the most", x.ship(1, 20, 20, 20), 1);
        due("all seamen", x.ship(0, 1, 1, 0), 2);
        int[] least = {0, 1, 0, 0, 1, 0, 0};
        int[] most = {1, 20, 20, 20, 1, 0, 0};
        for (int what = 0; what < 7; what++) {
            due("the least is kept, " + what, x.of(0, what), least[what]);
            due("the most is kept, " + what, x.of(1, what), most[what]);
        }
        due("kind below", x.ship(-1, 1, 0, 0), BAD);
        due("kind above", x.ship(2, 1, 0, 0), BAD);
        due("need below", x.ship(0, 0, 0, 0), BAD);
        due("need above", x.ship(0, 21, 0, 0), BAD);
        due("seamen below", x.ship(0, 20, -1, 0), BAD);
        due("seamen above need", x.ship(0, 1, 2, 0), BAD);
        due("seamen above the most", x.ship(0, 20, 21, 0), BAD);
        due("least below", x.ship(0, 1, 0, -1), BAD);
        due("least above", x.ship(0, 1, 0, 21), BAD);
        due("no more of them", x.count(1), 3);
        sentence("T1 SHIPS 0, 1, .. (10 at most); 34 FULL");
        for (int i = 3; i < 10; i++) {
            due("ship " + i, x.ship(i % 2, i, i, i), i);
        }
        due("one more", x.ship(0, 1, 0, 0), FULL);
        due("so many", x.count(1), 10);
        due("the last is there", x.of(9, 1), 9);
        due("none behind it", x.of(10, 1), UNKNOWN);
        sentence("35 what 0 .. 6; BAD");
        due("below", x.of(0, -1), BAD);
        due("above", x.of(0, 7), BAD);
    }

    private static void menOfEachShip() {
        sentence("35 MEN in it (5), SEAMEN of these (6); 36, 38, 42, 43 of that SHIP alone");
        PressedMen x = port(1, 0);
        for (int i = 0; i < 10; i++) {
            x.ship(1, 2, 0, 0);
            for (int men = 0; men <= i % 4; men++) {
                x.board(men == 0 ? manAt(x, 0) : landsman(x), i);
            }
        }
        int taken = manAt(x, 0);
        x.take(taken, NONE);
        for (int i = 0; i < 10; i++) {
            int men = 1 + i % 4;
            due("men in " + i, x.of(i, 5), men);
            due("seamen in " + i, x.of(i, 6), 1);
            due("at " + i, x.at(10 + i), men);
            due("spared by " + i, x.spare(i, 1), men - 1);
            due("turned over to " + i, x.turn(taken, i), men == 4 ? FULL : TENDER);
            due("sails with, " + i, x.sail(i), men == 4 ? 4 : men + 1);
            due("comes home with, " + i, x.comeHome(i), men == 4 ? 4 : men + 1);
            x.letGo(taken);
            x.take(taken, NONE);
        }
    }

    private static void spare() {
        sentence("T6 MEN in it, less LEAST and WEATHER (0 .. 3), 0 at least");
        PressedMen x = port(1, 6);
        x.ship(1, 20, 0, 2);
        x.ship(0, 20, 0, 2);
        for (int men = 0; men <= 6; men++) {
            for (int weather = 0; weather <= 3; weather++) {
                due(men + " men, weather " + weather, x.spare(0, weather), Math.max(0, men - 2 - weather));
            }
            if (men < 6) {
                x.board(men, 0);
            }
        }
        due("weather below", x.spare(0, -1), BAD);
        due("weather above", x.spare(0, 4), BAD);
        due("the king's", x.spare(1, 0), STATE);
        due("the king's, weather above", x.spare(1, 4), BAD);
        due("no ship", x.spare(2, 0), UNKNOWN);
        PressedMen y = port(1, 1);
        y.ship(1, 1, 0, 20);
        y.board(0, 0);
        due("far below 0", y.spare(0, 3), 0);
    }

    private static void board() {
        sentence("37 aboard a SHIP AT HOME, from a STREET: how many; STATE: he is elsewhere");
        PressedMen x = menEverywhere();
        x.ship(0, 20, 0, 0);
        for (int man = 0; man < 9; man++) {
            due("from " + EVERYWHERE[man], x.board(man, 4), man == 0 ? 1 : STATE);
            due("then", x.where(man, 1), man == 0 ? 14 : EVERYWHERE[man]);
        }
        due("where he is", x.board(0, 4), STATE);
        int man = manAt(x, 3);
        due("the king's that is out", x.board(man, 2), STATE);
        due("trade's that is out", x.board(man, 3), STATE);
        x.comeHome(3);
        due("that came home, from the last street", x.board(man, 3), 2);
        sentence("37 FULL: it has twice its NEED");
        for (int need = 1; need <= 19; need += 6) {
            PressedMen y = port(1, 40);
            y.ship(0, need, 0, 0);
            for (int i = 0; i < 2 * need; i++) {
                due("need " + need + ", man " + i, y.board(i, 0), i + 1);
            }
            due("need " + need + ", one more", y.board(39, 0), FULL);
            due("he stays", y.where(39, 0), 0);
            y.letGo(0);
            due("when there is room again", y.board(39, 0), 2 * need);
        }
        PressedMen z = port(1, 40);
        z.ship(1, 20, 0, 0);
        for (int i = 0; i < 40; i++) {
            due("all there can be", z.board(i, 0), i + 1);
        }
    }

    private static void turn() {
        sentence("T6 from the TENDER or a SHIP AT HOME to another SHIP AT HOME; 38 STATE: he is elsewhere");
        PressedMen x = menEverywhere();
        x.ship(0, 20, 0, 0);
        for (int man = 0; man < 9; man++) {
            boolean can = man == 1 || man == 3 || man == 4;
            due("from " + EVERYWHERE[man], x.turn(man, 4), can ? EVERYWHERE[man] : STATE);
            due("then", x.where(man, 1), can ? 14 : EVERYWHERE[man]);
        }
        sentence("38 STATE: in that SHIP, or it is OUT");
        due("in that ship", x.turn(1, 4), STATE);
        due("to the king's that is out", x.turn(1, 2), STATE);
        due("to trade's that is out", x.turn(1, 3), STATE);
        due("from the one that is out to itself", x.turn(5, 2), STATE);
        x.comeHome(3);
        due("to one that came home", x.turn(1, 3), 14);
        due("from one that came home", x.turn(6, 0), 13);
        sentence("T6 that has fewer than twice its NEED; 38 FULL");
        PressedMen y = port(1, 8);
        y.ship(0, 3, 0, 0);
        for (int i = 0; i < 8; i++) {
            y.take(i, NONE);
        }
        for (int i = 0; i < 6; i++) {
            due("man " + i, y.turn(i, 0), TENDER);
        }
        due("one more", y.turn(6, 0), FULL);
        due("he stays", y.where(6, 0), TENDER);
        due("who is in it", y.turn(0, 0), STATE);
        y.run(0);
        due("when there is room again", y.turn(6, 0), TENDER);
        due("and then no more", y.turn(7, 0), FULL);
    }

    private static void notAshore() {
        sentence("39 tide 0 .. now; BAD; T6 ahead of TIDE 0 all were at HOME; 0: he is");
        PressedMen x = port(1, 2);
        due("ashore on tide 0", x.notAshore(0, 0), 0);
        due("ahead of it", x.notAshore(0, -1), BAD);
        due("to come", x.notAshore(0, 1), BAD);
        x.run(0);
        due("not ashore on tide 0", x.notAshore(0, 0), 1);
        passTo(x, 899);
        due("never since", x.notAshore(0, 899), 900);
        due("never by then", x.notAshore(0, 450), 451);
        due("always", x.notAshore(1, 899), 0);
        due("behind the last tide", x.notAshore(1, 900), BAD);
        x.run(1);
        due("on the last tide", x.notAshore(1, 899), 1);
        due("the tide ahead", x.notAshore(1, 898), 0);
        sentence("T6 the last one as of which he was in a STREET, or INLAND");
        int[] want = {0, 1, 1, 1, 1, 1, 1, 0, 1};
        PressedMen y = menEverywhere();
        y.pass(1);
        for (int man = 0; man < 9; man++) {
            int more = man == 0 || man == 7 ? 0 : man == 2 ? 2 : 1;
            due("in " + EVERYWHERE[man] + " as of the tide ahead", y.notAshore(man, 1), man == 2 ? 2 : want[man]);
            due("in " + EVERYWHERE[man], y.notAshore(man, 2), want[man] + more);
        }
        PressedMen z = port(1, 1);
        z.ship(0, 1, 0, 0);
        z.pass(3);
        z.board(0, 0);
        z.letGo(0);
        due("ashore again on that tide", z.notAshore(0, 3), 0);
        z.board(0, 0);
        z.pass(2);
        z.letGo(0);
        z.board(0, 0);
        due("ashore within a tide only", z.notAshore(0, 5), 3);
    }

    // ---- the fleet

    private static void taken() {
        sentence("40 a set of SHIPS; BAD: weather, or a bit is no SHIP of THE KING AT HOME");
        PressedMen x = port(1, 2);
        due("no ship, the empty set", x.taken(0, 0), 0);
        due("no ship, a set", x.taken(1, 0), BAD);
        x.ship(0, 1, 0, 0);
        x.ship(1, 1, 0, 0);
        x.ship(0, 1, 0, 0);
        x.board(0, 2);
        x.sail(2);
        int[] want = {0, NONE, BAD, BAD, BAD, BAD, BAD, BAD, BAD};
        for (int set = 0; set < want.length; set++) {
            due("set " + set, x.taken(set, 0), want[set]);
        }
        for (int bit = 3; bit < 32; bit++) {
            due("bit " + bit, x.taken(1 << bit, 0), BAD);
            due("bit " + bit + " and one that is", x.taken(1 << bit | 1, 0), BAD);
        }
        due("all bits", x.taken(-1, 0), BAD);
        due("weather below", x.taken(0, -1), BAD);
        due("weather above", x.taken(0, 4), BAD);
        due("the most weather", x.taken(0, 3), 0);
    }

    private static void needs() {
        sentence("T6 MEN .. are all their NEEDS together at least; THE LEAST TAKEN: so few");
        PressedMen x = port(1, 0);
        x.ship(0, 3, 0, 0);
        x.ship(0, 2, 0, 0);
        x.ship(1, 9, 0, 1);
        x.ship(1, 9, 0, 0);
        due("nobody", x.taken(1, 0), NONE);
        for (int i = 0; i < 7; i++) {
            landsman(x);
        }
        x.board(0, 2);
        due("all there are is left to it", x.taken(2, 0), NONE);
        x.board(1, 2);
        due("one to spare of two", x.taken(2, 0), NONE);
        x.board(2, 3);
        due("out of both", x.taken(2, 0), 2);
        due("one too few", x.taken(1, 0), NONE);
        due("in weather 1 the one has none to spare", x.taken(2, 1), NONE);
        x.take(3, NONE);
        due("with the tender", x.taken(1, 0), 2);
        due("with the tender, fewer", x.taken(2, 0), 1);
        x.take(4, NONE);
        x.take(5, NONE);
        due("just enough", x.taken(1, 0), 0);
        due("more than enough", x.taken(2, 0), 0);
        due("together", x.taken(3, 0), 2);
        x.turn(3, 1);
        due("in a ship of the king that is not of the set", x.taken(1, 0), 0);
        sentence("T6 in all SHIPS of THE KING AT HOME; of SHIPS of TRADE AT HOME");
        x.turn(4, 1);
        x.sail(1);
        due("not who is out with the king's", x.taken(1, 0), 2);
        x.board(6, 3);
        due("two of the one", x.taken(1, 0), 2);
        x.turn(5, 3);
        due("none but trade's", x.taken(1, 0), 3);
        due("none but trade's, weather 1", x.taken(1, 1), NONE);
        PressedMen y = port(1, 2);
        y.ship(0, 1, 0, 0);
        y.ship(1, 1, 0, 0);
        y.board(0, 1);
        due("out of trade's at home", y.taken(1, 0), 1);
        y.sail(1);
        due("not out of trade's that is out", y.taken(1, 0), NONE);
        y.comeHome(1);
        due("when it came home", y.taken(1, 0), 1);
    }

    private static void seamenOfAFleet() {
        sentence("T6 SEAMEN of these all their SEAMEN");
        PressedMen x = port(1, 0);
        x.ship(0, 2, 2, 0);
        x.ship(1, 9, 0, 2);
        x.take(landsman(x), NONE);
        x.take(landsman(x), NONE);
        due("needs, but no seamen", x.taken(1, 0), NONE);
        x.board(manAt(x, 0), 1);
        x.board(landsman(x), 1);
        x.board(landsman(x), 1);
        due("one to spare, a seaman", x.taken(1, 0), NONE);
        x.board(manAt(x, 0), 1);
        due("two to spare, both seamen", x.taken(1, 0), 2);
        due("in weather 1 but one", x.taken(1, 1), NONE);
        x.take(manAt(x, 0), NONE);
        due("one of them is in the tender", x.taken(1, 0), 1);
        due("in weather 1 too", x.taken(1, 1), 1);
        x.take(manAt(x, 0), NONE);
        due("both of them", x.taken(1, 0), 0);
        PressedMen y = port(1, 0);
        y.ship(0, 4, 1, 0);
        y.ship(1, 9, 0, 0);
        y.take(landsman(y), NONE);
        y.board(manAt(y, 0), 1);
        y.board(landsman(y), 1);
        due("one too few", y.taken(1, 0), NONE);
        y.board(landsman(y), 1);
        due("a seaman and others", y.taken(1, 0), 3);
        PressedMen w = port(1, 0);
        w.ship(0, 2, 2, 0);
        w.ship(0, 1, 0, 0);
        w.board(manAt(w, 0), 1);
        w.board(manAt(w, 0), 1);
        due("both in a ship of the king that is not of the set", w.taken(1, 0), 0);
        w.sail(1);
        due("not when it is out", w.taken(1, 0), NONE);
        sentence("T6 of each no more than it can SPARE");
        PressedMen v = port(1, 0);
        v.ship(0, 2, 2, 0);
        v.ship(1, 9, 0, 2);
        v.ship(1, 9, 0, 0);
        for (int i = 0; i < 3; i++) {
            v.board(manAt(v, 0), 1);
            v.board(landsman(v), 2);
        }
        due("three seamen, one of them to spare", v.taken(1, 0), NONE);
        for (int i = 0; i < 9; i++) {
            due("asked again", v.taken(1, 0), NONE);
            due("by the fleet", v.fleet(0), 0);
        }
        v.board(manAt(v, 0), 1);
        due("four, two of them to spare", v.taken(1, 0), 2);
        due("so it can sail", v.fleet(0), 1);
        due("not in weather 1", v.fleet(1), 0);
        PressedMen z = port(1, 0);
        z.ship(0, 2, 2, 0);
        z.ship(1, 9, 0, 0);
        z.ship(1, 9, 0, 1);
        z.board(manAt(z, 0), 1);
        z.board(manAt(z, 0), 2);
        due("the one seaman that is left to it", z.taken(1, 0), NONE);
        z.board(landsman(z), 2);
        due("is left the other", z.taken(1, 0), 2);
    }

    private static void fleet() {
        sentence("T6 THE BEST FLEET: most SHIPS, then THE LEAST TAKEN, then the least set");
        PressedMen x = port(1, 0);
        due("no ship", x.fleet(0), 0);
        x.ship(1, 1, 0, 0);
        due("none of the king's", x.fleet(0), 0);
        x.ship(0, 2, 0, 0);
        x.ship(0, 1, 0, 0);
        x.ship(0, 1, 0, 0);
        due("nobody", x.fleet(0), 0);
        x.take(landsman(x), NONE);
        due("the least set of one", x.fleet(0), 4);
        x.take(landsman(x), NONE);
        due("two ships rather than one", x.fleet(0), 12);
        x.board(landsman(x), 0);
        due("as many, fewest taken", x.fleet(0), 12);
        due("weather leaves none to spare", x.fleet(1), 12);
        x.take(landsman(x), NONE);
        due("as many, none taken, the least set", x.fleet(1), 6);
        due("three with one taken", x.fleet(0), 14);
        PressedMen z = port(1, 2);
        z.ship(0, 1, 0, 0);
        z.ship(0, 2, 0, 0);
        z.ship(1, 1, 0, 0);
        z.board(0, 2);
        z.board(1, 2);
        due("the first takes fewest", z.fleet(0), 1);
        due("the second takes more", z.taken(2, 0), 2);
        due("not both", z.taken(3, 0), NONE);
        sentence("41 BAD");
        due("weather below", x.fleet(-1), BAD);
        due("weather above", x.fleet(4), BAD);
        due("the most weather", x.fleet(3), 6);
        PressedMen y = port(1, 11);
        for (int i = 0; i < 10; i++) {
            y.ship(0, 1, 1, 0);
            y.take(i, NONE);
            due("all of " + (i + 1), y.fleet(3), (2 << i) - 1);
        }
        due("the set of all", y.taken(1023, 3), 0);
        y.turn(9, 9);
        y.sail(9);
        due("not one that is out", y.fleet(0), 511);
        due("nor in a set", y.taken(1023, 0), BAD);
        y.run(8);
        due("one too few: the least set of eight", y.fleet(0), 255);
    }

    private static void sail() {
        sentence("T6 a SHIP AT HOME with as many MEN as its NEED, and SEAMEN, is OUT; 42 STATE");
        PressedMen x = port(1, 0);
        x.ship(0, 3, 2, 20);
        x.ship(1, 1, 0, 20);
        due("nobody", x.sail(0), STATE);
        x.board(manAt(x, 0), 0);
        x.board(manAt(x, 0), 0);
        due("one too few", x.sail(0), STATE);
        x.board(landsman(x), 0);
        due("just as many", x.sail(0), 3);
        due("out already", x.sail(0), STATE);
        sentence("43 It COMES HOME; STATE: it is AT HOME");
        due("with all", x.comeHome(0), 3);
        due("at home already", x.comeHome(0), STATE);
        x.run(0);
        x.board(landsman(x), 0);
        due("one seaman too few", x.sail(0), STATE);
        x.board(landsman(x), 0);
        x.board(landsman(x), 0);
        due("with more than its need too", x.sail(0), STATE);
        x.board(manAt(x, 0), 0);
        due("twice its need", x.sail(0), 6);
        x.run(1);
        x.run(2);
        due("fewer than its need come home", x.comeHome(0), 4);
        due("trade's, nobody", x.sail(1), STATE);
        x.board(landsman(x), 1);
        due("trade's, though less than its least", x.sail(1), 1);
        x.run(x.count(0) - 1);
        due("nobody comes home", x.comeHome(1), 0);
        due("no ship", x.sail(2), UNKNOWN);
        due("no ship comes home", x.comeHome(2), UNKNOWN);
    }

    // ---- tickets

    private static void tickets() {
        sentence("44 MONTHS (1 .. 99), a WAGE (1 .. 50); BAD");
        PressedMen x = port(1, 1);
        due("no man", x.ticket(1, 1, 1), UNKNOWN);
        due("months below", x.ticket(0, 0, 1), BAD);
        due("months above", x.ticket(0, 100, 1), BAD);
        due("wage below", x.ticket(0, 1, 0), BAD);
        due("wage above", x.ticket(0, 1, 51), BAD);
        due("none of them is there", x.count(5), 0);
        due("the least", x.ticket(0, 1, 1), 0);
        due("the most", x.ticket(0, 99, 50), 1);
        due("the least worth", x.ticketOf(0, 3), 1);
        due("the most worth", x.ticketOf(1, 3), 4950);
        sentence("T7 TICKETS 0, 1, .. (40 at most); 44 FULL");
        for (int i = 2; i < 40; i++) {
            due("ticket " + i, x.ticket(0, 99, 50), i);
        }
        due("one more", x.ticket(0, 1, 1), FULL);
        due("so many", x.count(5), 40);
        due("the last is there", x.ticketOf(39, 3), 4950);
        due("none behind it", x.ticketOf(40, 3), UNKNOWN);
        due("all that can be owed", x.wages(0, true), 39 * 4950 + 1);
        for (int i = 0; i < 40; i++) {
            x.pay(i, NONE);
        }
        due("owed no more", x.wages(0, true), 0);
        due("got", x.wages(0, false), 39 * 4950 + 1);
        sentence("47 what 0 .. 3; BAD");
        due("below", x.ticketOf(0, -1), BAD);
        due("above", x.ticketOf(0, 4), BAD);
    }

    private static void sell() {
        sentence("T7 at a PART (1 .. 100 in a hundred), cut; 45 BAD: part");
        PressedMen x = port(1, 1);
        x.ticket(0, 3, 11);
        x.ticket(0, 1, 1);
        x.ticket(0, 99, 50);
        due("below", x.sell(0, 0, 0), BAD);
        due("above", x.sell(0, 0, 101), BAD);
        due("still the man's", x.ticketOf(0, 0), NONE);
        due("the least of 33", x.sell(0, 0, 1), 0);
        due("sold for nothing is sold", x.ticketOf(0, 0), 0);
        due("3 in a hundred of 33", x.sell(0, 1, 3), 0);
        due("4 in a hundred of 33", x.sell(0, 2, 4), 1);
        due("all but one", x.sell(0, 3, 99), 32);
        due("the whole", x.sell(0, 4, 100), 33);
        due("99 in a hundred of 1", x.sell(1, 5, 99), 0);
        due("the whole of 1", x.sell(1, 6, 100), 1);
        due("99 in a hundred of the most", x.sell(2, 7, 99), 4900);
        int[] purses = {0, 1, 31, 1, -33, 1, -1, -4900, 0, 0};
        for (int holder = 0; holder < 10; holder++) {
            due("purse " + holder, x.purse(holder), TEN_MILLION + purses[holder]);
        }
        due("the man got", x.wages(0, false), 4900);
        sentence("45 UNKNOWN: ticket, holder (0 .. 9)");
        due("to the last", x.sell(0, 9, 50), 16);
        due("behind the last", x.sell(0, 10, 50), UNKNOWN);
        due("ahead of the first", x.sell(0, -1, 50), UNKNOWN);
        due("to the first", x.sell(0, 0, 50), 16);
        due("no ticket", x.sell(3, 0, 50), UNKNOWN);
        sentence("45 STATE: it is PAID, or is that one's");
        due("that one's", x.sell(0, 0, 50), STATE);
        due("that one's, at no part", x.sell(0, 0, 0), BAD);
        x.pay(0, 5);
        due("paid falsely alone", x.sell(0, 1, 50), 16);
        x.pay(0, 1);
        due("paid", x.sell(0, 2, 50), STATE);
        due("paid, that one's", x.sell(0, 1, 50), STATE);
        due("whose it stays", x.ticketOf(0, 0), 1);
    }

    private static void pay() {
        sentence("T7 PAID, once: whole; PAID already, or the HOLDER is another one: again, but FALSELY (counted)");
        PressedMen x = port(1, 2);
        x.ticket(0, 10, 5);
        due("to one who does not hold it", x.pay(0, 0), 50);
        due("falsely", x.ticketOf(0, 2), 1);
        due("not rightly", x.ticketOf(0, 1), 0);
        due("owed still", x.wages(0, true), 50);
        due("to the man", x.pay(0, NONE), 50);
        due("rightly", x.ticketOf(0, 1), 1);
        due("owed no more", x.wages(0, true), 0);
        due("to the man again", x.pay(0, NONE), 50);
        due("to the last holder", x.pay(0, 9), 50);
        due("falsely each", x.ticketOf(0, 2), 3);
        due("once rightly", x.ticketOf(0, 1), 1);
        due("the man got two", x.wages(0, false), 100);
        due("the first", x.purse(0), TEN_MILLION + 50);
        due("the last", x.purse(9), TEN_MILLION + 50);
        x.ticket(1, 2, 2);
        x.sell(1, 4, 50);
        due("to the man who sold it", x.pay(1, NONE), 4);
        due("that is falsely", x.ticketOf(1, 2), 1);
        due("he got of both", x.wages(1, false), 6);
        due("not owed to him", x.wages(1, true), 0);
        due("to who holds it", x.pay(1, 4), 4);
        due("that is rightly", x.ticketOf(1, 1), 1);
        due("no more of them falsely", x.ticketOf(1, 2), 1);
        due("his purse", x.purse(4), TEN_MILLION + 2);
        due("another's wages", x.wages(0, false), 100);
        sentence("46 UNKNOWN");
        due("behind the last holder", x.pay(1, 10), UNKNOWN);
        due("ahead of the first", x.pay(1, -1), UNKNOWN);
        due("next to NONE", x.pay(1, -8), UNKNOWN);
        due("next to NONE, below", x.pay(1, -10), UNKNOWN);
        due("no ticket", x.pay(2, 0), UNKNOWN);
        due("nor ahead of the first", x.pay(-1, NONE), UNKNOWN);
        due("not counted", x.ticketOf(1, 2), 1);
        sentence("48 UNKNOWN; and ten million more");
        due("nothing yet", x.purse(5), TEN_MILLION);
        due("behind the last", x.purse(10), UNKNOWN);
        due("ahead of the first", x.purse(-1), UNKNOWN);
    }

    private static void pursesAtTheirEnds() {
        sentence("48 What a HOLDER got so far, less what was given");
        PressedMen x = port(1, 1);
        for (int i = 0; i < 40; i++) {
            x.ticket(0, 99, 50);
            x.sell(i, 0, 100);
        }
        due("given for all there can be", x.purse(0), TEN_MILLION - 40 * 4950);
        for (int i = 0; i < 40; i++) {
            x.sell(i, 1, 1);
        }
        due("got by selling", x.purse(0), TEN_MILLION - 40 * 4950 + 40 * 49);
        int paid = 0;
        for (int i = 0; i < 350; i++) {
            paid += x.pay(i % 40, 1);
        }
        due("paid, and paid falsely, to the end", x.purse(1), TEN_MILLION - 40 * 49 + paid);
    }

    // ---- counts, and what holds for all calls

    private static void count() {
        sentence("50 what 0 .. 7; BAD; 6 MEN who are not in STREETS");
        PressedMen x = new PressedMen();
        for (int what = -1; what <= 8; what++) {
            due("at first, " + what, x.count(what), what == 7 ? 4 : what >= 0 && what < 7 ? 0 : BAD);
        }
        x = port(1, 40);
        for (int i = 0; i < 40; i++) {
            due("so many", x.count(6), i);
            x.run(i);
        }
        due("all there can be", x.count(6), 40);
        x = menEverywhere();
        due("all but one", x.count(6), 8);
        x.walk(7, 3);
        due("from inland to the last street", x.count(6), 7);
        x.walk(0, 1);
        due("from street to street", x.count(6), 7);
    }

    private static void newObject() {
        sentence("1 Four STREETS, nobody, TIDE 0");
        PressedMen x = new PressedMen();
        due("streets", x.count(7), 4);
        due("nobody", x.about(0, 0), UNKNOWN);
        due("tide", x.tide(), 0);
        due("nobody in a street", x.at(3), 0);
        due("no fifth street", x.at(4), BAD);
        due("no wronged", x.wronged(), 0);
        due("no news", x.quiet(), 0);
        due("nothing heard", x.heard(0), NONE);
        due("nobody met", x.met(2, 3), 0);
        due("no gang but in 0", x.laid(2, 3, 1, 2), 0);
        due("nothing taken", x.taken(0, 3), 0);
        due("no fleet", x.fleet(3), 0);
        due("a tide goes by", x.pass(1), 1);
        due("an act", x.act(1), 0);
    }

    private static void theLastCalls() {
        sentence("An object is used for at most 512 calls after it has been made");
        PressedMen x = new PressedMen();
        int calls = 0;
        for (; calls < 509; calls++) {
            x.way(0, 1, calls % 2 == 0);
        }
        due("call 510", manAt(x, 1), 0);
        due("call 511", x.take(0, NONE), 0);
        due("call 512", x.heard(0), 1);
        PressedMen y = port(1, 1);
        for (int i = 0; i < 255; i++) {
            due("twice ashore on a tide, " + i, y.walk(0, 0), 0);
            y.pass(1);
        }
    }

    private static void objectsApart() {
        sentence("T8 What is refused changes nothing; and no object knows of another");
        PressedMen x = town(2, 0, 1);
        PressedMen y = new PressedMen();
        x.ship(0, 1, 0, 0);
        x.take(0, NONE);
        x.pass(3);
        for (int what = 0; what < 7; what++) {
            due("count " + what, y.count(what), 0);
        }
        due("tide", y.tide(), 0);
        due("act", y.force(0), NONE);
        sentence("T8 UNKNOWN -1, BAD -2, STATE -3, FULL -4; NONE is -9");
        due("UNKNOWN", PressedMen.UNKNOWN, -1);
        due("BAD", PressedMen.BAD, -2);
        due("STATE", PressedMen.STATE, -3);
        due("FULL", PressedMen.FULL, -4);
        due("NONE", PressedMen.NONE, -9);
    }

    public static void main(String[] args) {
        newObject();
        streets();
        waysThatStay();
        ways();
        far();
        men();
        seamen();
        whereAsOf();
        whereOfOneWhoMovesMuch();
        at();
        pass();
        theShyHide();
        theShyWithoutNews();
        theShyElsewhere();
        theTenderIsTooFull();
        theSickGoHome();
        theOrderInATide();
        walkAndRun();
        papers();
        cover();
        coverNobody();
        shown();
        acts();
        faults();
        force();
        tests();
        testsOfPlaces();
        covered();
        take();
        takenRightly();
        wronged();
        letGo();
        news();
        tender();
        gangs();
        metOnce();
        heardInALaying();
        ships();
        menOfEachShip();
        spare();
        board();
        turn();
        notAshore();
        taken();
        needs();
        seamenOfAFleet();
        fleet();
        sail();
        tickets();
        sell();
        pay();
        pursesAtTheirEnds();
        count();
        theLastCalls();
        objectsApart();
        System.out.println(asked + " boundary cases, " + wrong + " wrong");
        if (wrong != 0) {
            System.exit(1);
        }
    }
}
