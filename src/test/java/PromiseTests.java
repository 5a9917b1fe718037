/** One method for each promise of DOC.md: ordinary inputs, the edges it names, wrong inputs. */
public final class PromiseTests {
    private static final int UNKNOWN = -1, BAD = -2, STATE = -3, FULL = -4, NONE = -9;
    private static int wrong = 0;
    private static int asked = 0;
    private static int promise = 0;

    private static void due(String call, int got, int want) {
        asked++;
        if (got != want) {
            wrong++;
            System.out.println("promise " + promise + ": " + call + " answered " + got + ", due is " + want);
        }
    }

    /** Men of 20, hair 0, scar 0, height 60, trade 0, five years at sea: one for each home. */
    private static PressedMen port(int streets, int... homes) {
        PressedMen x = new PressedMen();
        x.streets(streets);
        for (int home : homes) {
            x.man(20, 0, 0, 60, 0, 5, home);
        }
        return x;
    }

    private static int enact(PressedMen x, int tide, String text) {
        int act = x.act(tide);
        for (int i = 0; i < text.length(); i++) {
            x.sign(act, text.charAt(i));
        }
        return act;
    }

    private static int openPaper(PressedMen x, int man) {
        return x.paper(man, NONE, NONE, 0, 99, 0, 99, 0, 899);
    }

    private static void chain(PressedMen x, int streets) {
        for (int s = 1; s < streets; s++) {
            x.way(s - 1, s, true);
        }
    }

    private static void p1() {
        PressedMen x = new PressedMen();
        due("count(7)", x.count(7), 4);
        for (int what = 0; what < 7; what++) {
            due("count(" + what + ")", x.count(what), 0);
        }
        due("tide()", x.tide(), 0);
        due("far(0, 1)", x.far(0, 1), NONE);
        due("tender(0, 10)", x.tender(0, 10), 10);
        due("tender(1, 50)", x.tender(1, 50), 50);
        due("purse(0)", x.purse(0), 10000000);
        due("force(0)", x.force(0), NONE);
        due("heard(3)", x.heard(3), NONE);
        due("UNKNOWN", PressedMen.UNKNOWN, UNKNOWN);
        due("BAD", PressedMen.BAD, BAD);
        due("STATE", PressedMen.STATE, STATE);
        due("FULL", PressedMen.FULL, FULL);
        due("NONE", PressedMen.NONE, NONE);
        PressedMen y = new PressedMen();
        x.man(20, 0, 0, 60, 0, 5, 0);
        due("another object", y.count(0), 0);
    }

    private static void p2() {
        PressedMen x = new PressedMen();
        due("streets(0)", x.streets(0), BAD);
        due("streets(9)", x.streets(9), BAD);
        due("streets(-1)", x.streets(-1), BAD);
        due("streets(8)", x.streets(8), 4);
        chain(x, 8);
        due("far(0, 7)", x.far(0, 7), 7);
        due("streets(3)", x.streets(3), 8);
        due("ways that stay", x.far(0, 2), 2);
        due("streets(8)", x.streets(8), 3);
        due("ways that are gone", x.far(2, 3), NONE);
        due("both were gone", x.far(6, 7), NONE);
        due("and from the other side", x.far(3, 2), NONE);
        due("both sides", x.far(7, 6), NONE);
        due("stays again", x.far(0, 2), 2);
        x.way(0, 7, true);
        x.streets(7);
        x.streets(8);
        due("gone from the first street", x.far(0, 7), NONE);
        due("gone to the first street", x.far(7, 0), NONE);
        due("streets(1)", x.streets(1), 8);
        x.man(20, 0, 0, 60, 0, 5, 0);
        due("streets(2) with men", x.streets(2), STATE);
        due("streets(9) with men", x.streets(9), BAD);
        due("count(7)", x.count(7), 1);
    }

    private static void p3() {
        PressedMen x = new PressedMen();
        due("way(0, 1, true)", x.way(0, 1, true), 0);
        due("way(1, 0, true)", x.way(1, 0, true), 1);
        due("way(0, 1, false)", x.way(0, 1, false), 1);
        due("way(1, 0, false)", x.way(1, 0, false), 0);
        due("way(0, 0, true)", x.way(0, 0, true), BAD);
        due("way(4, 4, true)", x.way(4, 4, true), UNKNOWN);
        due("way(0, 4, true)", x.way(0, 4, true), UNKNOWN);
        due("way(-1, 0, true)", x.way(-1, 0, true), UNKNOWN);
        x.man(20, 0, 0, 60, 0, 5, 0);
        due("with men", x.way(2, 3, true), 0);
        due("far(2, 3)", x.far(2, 3), 1);
    }

    private static void p4() {
        PressedMen x = new PressedMen();
        x.streets(8);
        chain(x, 7);
        due("far(0, 0)", x.far(0, 0), 0);
        due("far(0, 6)", x.far(0, 6), 6);
        due("far(6, 0)", x.far(6, 0), 6);
        due("far(0, 7)", x.far(0, 7), NONE);
        due("far(7, 7)", x.far(7, 7), 0);
        x.way(0, 6, true);
        due("round the other way", x.far(0, 5), 2);
        due("the middle", x.far(0, 3), 3);
        x.way(0, 6, false);
        due("when it is gone", x.far(0, 5), 5);
        PressedMen star = new PressedMen();
        star.way(0, 1, true);
        star.way(0, 2, true);
        star.way(0, 3, true);
        due("through street 0", star.far(1, 3), 2);
        due("far(8, 0)", x.far(8, 0), UNKNOWN);
        due("far(0, -1)", x.far(0, -1), UNKNOWN);
    }

    private static void p5() {
        PressedMen x = new PressedMen();
        due("lowest", x.man(10, 0, 0, 50, 0, 0, 0), 0);
        due("highest", x.man(60, 3, 3, 80, 5, 40, 3), 1);
        due("age 9", x.man(9, 0, 0, 60, 0, 0, 0), BAD);
        due("age 61", x.man(61, 0, 0, 60, 0, 0, 0), BAD);
        due("hair 4", x.man(20, 4, 0, 60, 0, 0, 0), BAD);
        due("hair NONE", x.man(20, NONE, 0, 60, 0, 0, 0), BAD);
        due("scar -1", x.man(20, 0, -1, 60, 0, 0, 0), BAD);
        due("scar 4", x.man(20, 0, 4, 60, 0, 0, 0), BAD);
        due("height 49", x.man(20, 0, 0, 49, 0, 0, 0), BAD);
        due("height 81", x.man(20, 0, 0, 81, 0, 0, 0), BAD);
        due("trade 6", x.man(20, 0, 0, 60, 6, 0, 0), BAD);
        due("trade -1", x.man(20, 0, 0, 60, -1, 0, 0), BAD);
        due("years 41", x.man(20, 0, 0, 60, 0, 41, 0), BAD);
        due("years -1", x.man(20, 0, 0, 60, 0, -1, 0), BAD);
        due("home 4", x.man(20, 0, 0, 60, 0, 0, 4), UNKNOWN);
        due("home first", x.man(0, 9, 9, 0, 9, 99, -1), UNKNOWN);
        for (int i = 2; i < 40; i++) {
            due("man " + i, x.man(20, 0, 0, 60, 0, 0, 0), i);
        }
        due("man 40", x.man(20, 0, 0, 60, 0, 0, 0), FULL);
        due("bad before full", x.man(9, 0, 0, 60, 0, 0, 0), BAD);
        due("unknown before full", x.man(20, 0, 0, 60, 0, 0, 9), UNKNOWN);
        due("count(0)", x.count(0), 40);
        due("no man 40", x.about(40, 0), UNKNOWN);
        due("no man 41", x.about(41, 0), UNKNOWN);
        due("man 39", x.about(39, 0), 20);
    }

    private static void p6() {
        PressedMen x = new PressedMen();
        x.man(31, 1, 2, 63, 4, 5, 3);
        int[] want = {31, 1, 2, 63, 4, 5, 3, 0};
        for (int what = 0; what < want.length; what++) {
            due("about(0, " + what + ")", x.about(0, what), want[what]);
        }
        x.shy(0, true);
        due("shy", x.about(0, 7), 1);
        due("about(0, 8)", x.about(0, 8), BAD);
        due("about(0, -1)", x.about(0, -1), BAD);
        due("about(1, 8)", x.about(1, 8), UNKNOWN);
        due("about(-1, 0)", x.about(-1, 0), UNKNOWN);
    }

    private static void p7() {
        PressedMen x = port(4, 0);
        due("shy", x.shy(0, true), 0);
        due("shy again", x.shy(0, true), 1);
        due("bold", x.shy(0, false), 1);
        due("bold again", x.shy(0, false), 0);
        due("shy(1, true)", x.shy(1, true), UNKNOWN);
    }

    private static void p8() {
        PressedMen x = new PressedMen();
        x.pass(5);
        x.man(20, 0, 0, 60, 0, 5, 2);
        due("ahead of all", x.where(0, 0), 2);
        x.walk(0, 1);
        x.walk(0, 3);
        due("last on a tide", x.where(0, 5), 3);
        due("before it", x.where(0, 4), 2);
        due("a tide to come", x.where(0, 6), BAD);
        due("tide -1", x.where(0, -1), BAD);
        due("where(1, 6)", x.where(1, 6), UNKNOWN);
        for (int i = 0; i < 20; i++) {
            x.pass(2);
            x.walk(0, i % 4);
        }
        for (int i = 0; i < 20; i++) {
            due("move " + i, x.where(0, 7 + 2 * i), i % 4);
            due("after move " + i, x.where(0, Math.min(45, 8 + 2 * i)), i % 4);
        }
        due("long ago", x.where(0, 6), 3);
    }

    private static void p9() {
        PressedMen x = port(3, 0, 0, 2, 2, 2);
        due("at(0)", x.at(0), 2);
        due("at(1)", x.at(1), 0);
        due("at(2)", x.at(2), 3);
        due("at(3)", x.at(3), BAD);
        due("at(8)", x.at(8), BAD);
        due("at(9)", x.at(9), BAD);
        due("at(-1)", x.at(-1), BAD);
        due("at(10)", x.at(10), BAD);
        x.ship(0, 5, 0, 0);
        due("at(10) with a ship", x.at(10), 0);
        due("at(11)", x.at(11), BAD);
        x.board(0, 0);
        due("at(10) with a man", x.at(10), 1);
        x.take(1, NONE);
        due("at(20)", x.at(20), 1);
        due("at(21)", x.at(21), 0);
        due("at(22)", x.at(22), 0);
        x.run(2);
        due("at(23)", x.at(23), 1);
        due("at(24)", x.at(24), BAD);
        due("at(least)", x.at(Integer.MIN_VALUE), BAD);
        due("at(most)", x.at(Integer.MAX_VALUE), BAD);
        for (int i = 1; i < 10; i++) {
            x.ship(1, 1, 0, 0);
        }
        due("at(19)", x.at(19), 0);
    }

    private static void p10() {
        PressedMen x = new PressedMen();
        due("at first", x.tide(), 0);
        x.pass(60);
        x.pass(1);
        due("after 61", x.tide(), 61);
        x.pass(61);
        due("after a refusal", x.tide(), 61);
    }

    private static void p11() {
        PressedMen x = new PressedMen();
        due("pass(0)", x.pass(0), BAD);
        due("pass(61)", x.pass(61), BAD);
        due("pass(-1)", x.pass(-1), BAD);
        for (int i = 1; i <= 14; i++) {
            due("pass(60)", x.pass(60), 60 * i);
        }
        due("pass(60) above the last", x.pass(60), FULL);
        due("pass(61) above the last", x.pass(61), BAD);
        due("tide stays", x.tide(), 840);
        due("pass(59)", x.pass(59), 899);
        due("pass(1)", x.pass(1), FULL);
        theShyHide();
        theCrowdSickens();
        theSickGoHome();
    }

    private static void theShyHide() {
        PressedMen x = port(5, 0, 1, 2, 3, 4, 1);
        chain(x, 4);
        for (int man = 1; man < 5; man++) {
            x.shy(man, true);
        }
        x.take(0, NONE);
        due("nobody hides before a tide", x.at(22), 0);
        x.pass(1);
        due("man 1", x.where(1, 1), 22);
        due("man 2 not yet", x.where(2, 1), 2);
        due("man 5 is bold", x.where(5, 1), 1);
        x.pass(2);
        due("man 2 by then", x.where(2, 1), 2);
        due("man 2 then", x.where(2, 2), 22);
        due("man 3 not yet", x.where(3, 2), 3);
        due("man 3 then", x.where(3, 3), 22);
        due("man 4 never", x.where(4, 3), 4);
        PressedMen y = port(2, 0, 1);
        y.ship(1, 2, 0, 0);
        y.board(0, 0);
        y.shy(1, true);
        y.way(0, 1, true);
        y.take(0, NONE);
        y.pass(3);
        due("no news from a ship", y.where(1, 3), 1);
        PressedMen z = port(1, 0, 0);
        z.shy(1, true);
        z.pass(1);
        due("nobody hides without news", z.where(1, 1), 0);
        z.take(0, NONE);
        z.pass(1);
        due("also in street 0", z.where(1, 2), 22);
    }

    private static void theCrowdSickens() {
        PressedMen x = port(1, 0, 0, 0, 0, 0, 0, 0);
        x.tender(0, 2);
        x.tender(1, 50);
        for (int man = 6; man >= 0; man--) {
            x.take(man, NONE);
        }
        x.pass(1);
        due("half of five, cut", x.at(21), 2);
        due("the least", x.where(0, 1), 21);
        due("the least but one", x.where(1, 1), 21);
        due("no other", x.where(2, 1), 20);
        x.pass(1);
        due("half of three, cut", x.at(21), 3);
        x.pass(1);
        due("half of two", x.at(21), 4);
        x.pass(1);
        due("half of one is none", x.at(21), 4);
        x.tender(1, 100);
        x.pass(1);
        due("all above the room", x.at(20), 2);
        x.tender(0, 0);
        x.tender(1, 0);
        x.pass(1);
        due("rate 0", x.at(20), 2);
        PressedMen y = port(1, 0, 0);
        y.tender(0, 2);
        y.tender(1, 100);
        y.take(0, NONE);
        y.pass(1);
        y.take(1, NONE);
        y.pass(1);
        due("no more than there is room for", y.at(20), 2);
    }

    private static void theSickGoHome() {
        PressedMen x = port(3, 2, 1);
        x.tender(0, 0);
        x.tender(1, 100);
        x.shy(0, true);
        x.take(0, NONE);
        x.pass(10);
        due("still sick", x.where(0, 10), 21);
        x.pass(1);
        due("at home, though it has heard", x.where(0, 11), 2);
        x.pass(1);
        due("then he hides", x.where(0, 12), 22);
        PressedMen y = port(1, 0);
        y.tender(0, 0);
        y.tender(1, 100);
        y.take(0, NONE);
        y.pass(4);
        y.letGo(0);
        y.take(0, NONE);
        y.pass(10);
        due("sick anew counts anew", y.where(0, 14), 21);
        y.pass(1);
        due("ten tides after", y.where(0, 15), 0);
        y.take(0, NONE);
        y.pass(1);
        y.run(0);
        y.pass(20);
        due("who ran is not sick", y.where(0, 36), 23);
    }

    private static void p12() {
        PressedMen x = port(4, 0, 1);
        due("without a way", x.walk(0, 3), 0);
        due("where he is", x.walk(0, 3), 3);
        due("street 4", x.walk(0, 4), UNKNOWN);
        due("street -1", x.walk(0, -1), UNKNOWN);
        due("man 2", x.walk(2, 0), UNKNOWN);
        x.shy(0, true);
        x.walk(1, 3);
        x.take(1, NONE);
        x.pass(1);
        due("from inland", x.walk(0, 2), 22);
        due("from the tender", x.walk(1, 0), STATE);
        due("from the tender to nowhere", x.walk(1, 8), UNKNOWN);
        x.ship(0, 1, 0, 0);
        x.board(0, 0);
        due("from a ship", x.walk(0, 0), STATE);
        x.run(0);
        due("when run", x.walk(0, 0), STATE);
        due("he stays", x.where(0, 1), 23);
    }

    private static void p13() {
        PressedMen x = port(2, 1, 0, 0, 0);
        due("from a street", x.run(0), 1);
        due("run", x.run(0), STATE);
        due("man 4", x.run(4), UNKNOWN);
        due("man -1", x.run(-1), UNKNOWN);
        x.ship(0, 1, 0, 0);
        x.board(1, 0);
        x.sail(0);
        due("from a ship that is out", x.run(1), 10);
        x.take(2, NONE);
        due("from the tender", x.run(2), 20);
        x.take(3, NONE);
        x.tender(0, 0);
        x.tender(1, 100);
        x.pass(1);
        due("from the sick", x.run(3), 21);
        due("at(23)", x.at(23), 4);
    }

    private static void p14() {
        PressedMen x = port(1, 0);
        due("the widest", x.paper(0, NONE, NONE, 0, 99, 0, 99, 0, 899), 0);
        due("the narrowest", x.paper(0, 3, 3, 99, 99, 99, 99, 899, 899), 1);
        due("hair 4", x.paper(0, 4, 0, 0, 1, 0, 1, 0, 1), BAD);
        due("hair -1", x.paper(0, -1, 0, 0, 1, 0, 1, 0, 1), BAD);
        due("scar 4", x.paper(0, 0, 4, 0, 1, 0, 1, 0, 1), BAD);
        due("ages turned", x.paper(0, 0, 0, 2, 1, 0, 1, 0, 1), BAD);
        due("age 100", x.paper(0, 0, 0, 0, 100, 0, 1, 0, 1), BAD);
        due("age -1", x.paper(0, 0, 0, -1, 1, 0, 1, 0, 1), BAD);
        due("heights turned", x.paper(0, 0, 0, 0, 1, 2, 1, 0, 1), BAD);
        due("height 100", x.paper(0, 0, 0, 0, 1, 0, 100, 0, 1), BAD);
        due("height NONE", x.paper(0, 0, 0, 0, 1, NONE, 1, 0, 1), BAD);
        due("tides turned", x.paper(0, 0, 0, 0, 1, 0, 1, 2, 1), BAD);
        due("tide 900", x.paper(0, 0, 0, 0, 1, 0, 1, 0, 900), BAD);
        due("tide -1", x.paper(0, 0, 0, 0, 1, 0, 1, -1, 1), BAD);
        due("man 1", x.paper(1, 9, 9, 9, 0, 9, 0, 9, 0), UNKNOWN);
        for (int i = 2; i < 60; i++) {
            due("paper " + i, openPaper(x, 0), i);
        }
        due("paper 60", openPaper(x, 0), FULL);
        due("bad before full", x.paper(0, 4, 0, 0, 1, 0, 1, 0, 1), BAD);
        due("unknown before full", openPaper(x, 1), UNKNOWN);
        due("count(2)", x.count(2), 60);
        due("no paper 60", x.same(60, 0), UNKNOWN);
        due("no paper 61", x.same(61, 0), UNKNOWN);
    }

    private static void p15() {
        PressedMen x = new PressedMen();
        x.man(20, 1, 2, 60, 0, 5, 0);
        x.man(26, 1, 2, 60, 0, 5, 0);
        x.man(20, 2, 2, 60, 0, 5, 0);
        x.man(20, 1, 1, 63, 0, 5, 0);
        int sure = x.paper(0, 1, 2, 20, 25, 58, 60, 3, 7);
        due("sure", x.cover(sure, 0, 3), 2);
        due("the last tide", x.cover(sure, 0, 7), 2);
        due("before", x.cover(sure, 0, 2), 0);
        due("after", x.cover(sure, 0, 8), 0);
        due("age", x.cover(sure, 1, 5), 0);
        due("hair", x.cover(sure, 2, 5), 0);
        due("scar and height", x.cover(sure, 3, 5), 0);
        due("ages 6 apart", x.cover(x.paper(1, 1, 2, 20, 26, 60, 62, 0, 9), 1, 0), 1);
        due("heights 3 apart", x.cover(x.paper(1, 1, 2, 20, 25, 57, 60, 0, 9), 0, 0), 1);
        due("no hair said", x.cover(x.paper(1, NONE, 2, 20, 20, 60, 60, 0, 9), 2, 0), 1);
        due("no scar said", x.cover(x.paper(1, 1, NONE, 20, 20, 60, 63, 0, 9), 3, 0), 1);
        due("but the hair", x.cover(x.paper(1, 2, NONE, 20, 20, 60, 63, 0, 9), 3, 0), 0);
        due("whoever has it", x.cover(x.paper(1, 1, 2, 20, 20, 60, 60, 0, 9), 0, 0), 2);
        due("a tide to come", x.cover(openPaper(x, 0), 0, 899), 1);
        due("tide 900", x.cover(sure, 0, 900), BAD);
        due("tide -1", x.cover(sure, 0, -1), BAD);
        due("paper 99", x.cover(99, 0, 900), UNKNOWN);
        due("paper NONE", x.cover(NONE, 0, 0), UNKNOWN);
        due("man 4", x.cover(sure, 4, 900), UNKNOWN);
    }

    private static void p16() {
        PressedMen x = new PressedMen();
        for (int i = 0; i < 6; i++) {
            x.man(20 + i, i % 2, 0, 60, 0, 5, 0);
        }
        x.paper(0, 0, NONE, 0, 99, 0, 99, 2, 5);
        x.paper(0, NONE, NONE, 22, 25, 0, 99, 2, 5);
        due("by hair", x.same(0, 2), 3);
        due("by age", x.same(1, 5), 4);
        due("before", x.same(1, 1), 0);
        due("after", x.same(1, 6), 0);
        due("tide 900", x.same(0, 900), BAD);
        due("paper 2", x.same(2, 900), UNKNOWN);
    }

    private static void p17() {
        PressedMen x = port(1, 0, 0, 0, 0);
        openPaper(x, 0);
        x.paper(0, 3, 3, 0, 0, 0, 0, 0, 0);
        x.take(0, 0);
        x.pass(1);
        x.letGo(0);
        x.take(0, 0);
        x.take(1, 0);
        x.take(2, 1);
        x.take(3, NONE);
        due("tide 0", x.shown(0, 0), 1);
        due("unlike men", x.shown(0, 1), 2);
        due("one that fits nobody", x.shown(1, 1), 1);
        due("13 ahead", x.shown(0, 13), 2);
        due("14 tides from 1", x.shown(0, 14), 2);
        due("15", x.shown(0, 15), 0);
        due("tide 899", x.shown(0, 899), 0);
        due("tide 900", x.shown(0, 900), BAD);
        due("tide -1", x.shown(0, -1), BAD);
        due("paper 2", x.shown(2, -1), UNKNOWN);
        PressedMen y = port(1, 0, 0);
        openPaper(y, 0);
        y.take(0, 0);
        y.pass(20);
        y.take(1, 0);
        due("13", y.shown(0, 13), 1);
        due("14", y.shown(0, 14), 0);
        due("19", y.shown(0, 19), 0);
        due("20", y.shown(0, 20), 1);
        due("NONE is no paper", y.shown(NONE, 0), UNKNOWN);
    }

    private static void p18() {
        PressedMen x = new PressedMen();
        due("act(0)", x.act(0), 0);
        due("act(899)", x.act(899), 1);
        due("act(900)", x.act(900), BAD);
        due("act(-1)", x.act(-1), BAD);
        for (int i = 2; i < 8; i++) {
            due("act " + i, x.act(5), i);
        }
        due("act 8", x.act(5), FULL);
        due("bad before full", x.act(900), BAD);
        due("without signs", x.fault(7), 0);
        due("count(3)", x.count(3), 8);
        due("no act 8", x.fault(8), UNKNOWN);
        due("no act 9", x.fault(9), UNKNOWN);
    }

    private static void p19() {
        PressedMen x = new PressedMen();
        x.act(0);
        due("sign 32", x.sign(0, 32), BAD);
        due("sign 127", x.sign(0, 127), BAD);
        due("sign -9", x.sign(0, NONE), BAD);
        due("sign of 1", x.sign(1, 32), UNKNOWN);
        due("sign of -1", x.sign(-1, 33), UNKNOWN);
        for (int i = 1; i <= 60; i++) {
            due("sign " + i, x.sign(0, i % 2 == 0 ? 33 : 126), i);
        }
        due("sign 61", x.sign(0, 'p'), FULL);
        due("bad before full", x.sign(0, 31), BAD);
        due("what was refused is not there", x.fault(0), 0);
    }

    private static void fault(String text, int want) {
        PressedMen x = new PressedMen();
        due("fault of " + text, x.fault(enact(x, 0, text)), want);
    }

    private static void p20() {
        String[] whole = {"p", "s", "h", "a00", "A99", "y03", "Y40", "t05", "t99", "!p", "!!!s", "&ps", "|ph",
            "&|ps&t01!h", "&&&pppp", "&p&p&pp", "!&!p!|s!h"};
        for (String text : whole) {
            fault(text, NONE);
            fault(text + "p", text.length());
            fault(text + "#", text.length());
            fault(text + "0", text.length());
        }
        fault("", 0);
        fault("&", 1);
        fault("a", 1);
        fault("a1", 2);
        fault("a12", NONE);
        fault("&p", 2);
        fault("|!a1", 4);
        fault("x", 0);
        fault("0", 0);
        fault("P", 0);
        fault("a1p", 2);
        fault("ap", 1);
        fault("&pxp", 2);
        fault("!)", 1);
        fault("T01", 0);
        fault("a:0", 1);
        fault("a0/", 2);
        fault("&x", 1);
        StringBuilder most = new StringBuilder();
        for (int i = 0; i < 29; i++) {
            most.append('&');
        }
        for (int i = 0; i < 30; i++) {
            most.append('p');
        }
        fault(most.toString(), NONE);
        fault("&" + most, 60);
        fault("!" + most, NONE);
        PressedMen x = new PressedMen();
        due("fault(0)", x.fault(0), UNKNOWN);
    }

    private static void p21() {
        PressedMen x = new PressedMen();
        due("none", x.force(0), NONE);
        enact(x, 5, "p");
        enact(x, 5, "s");
        enact(x, 3, "h");
        enact(x, 7, "&p");
        due("before all", x.force(2), NONE);
        due("the first", x.force(3), 2);
        due("the first still", x.force(4), 2);
        due("of like ones the last", x.force(5), 1);
        due("one with a fault is not", x.force(7), 1);
        x.sign(3, 's');
        due("mended", x.force(7), 3);
        due("until the end", x.force(899), 3);
        x.sign(3, 's');
        due("at fault again", x.force(899), 1);
        due("force(900)", x.force(900), BAD);
        due("force(-1)", x.force(-1), BAD);
    }

    private static void may(String text, int want) {
        PressedMen x = new PressedMen();
        x.man(20, 0, 0, 60, 2, 5, 0);
        enact(x, 0, text);
        due("may by " + text, x.may(0, NONE), want);
        due("mayTruly by " + text, x.mayTruly(0), want);
    }

    private static void p22() {
        may("a20", 1);
        may("a21", 0);
        may("A20", 0);
        may("A21", 1);
        may("y05", 1);
        may("y06", 0);
        may("Y05", 0);
        may("Y06", 1);
        may("t02", 1);
        may("t01", 0);
        may("t20", 0);
        may("h", 1);
        may("s", 0);
        may("p", 0);
        may("!p", 1);
        may("!!p", 0);
        may("&hp", 0);
        may("&ph", 0);
        may("&h!s", 1);
        may("|ph", 1);
        may("|hp", 1);
        may("|ps", 0);
        may("&|phh", 1);
        may("|&phh", 1);
        may("&h&h|s!p", 1);
        may("!&h|p!h", 1);
        may("", 0);
        may("&h", 0);
        may("hh", 0);
        PressedMen x = port(2, 0, 1);
        x.ship(1, 1, 0, 0);
        enact(x, 0, "p");
        enact(x, 4, "!p");
        enact(x, 6, "s");
        x.paper(1, 0, 0, 20, 20, 60, 60, 0, 4);
        x.paper(1, 1, 0, 20, 20, 60, 60, 0, 9);
        due("another's paper", x.may(0, 0), 1);
        due("one that does not fit", x.may(0, 1), 0);
        x.pass(4);
        due("another act", x.may(0, 0), 0);
        x.pass(1);
        due("the paper is over", x.may(0, 0), 1);
        x.pass(1);
        due("in a street", x.may(0, NONE), 0);
        x.board(0, 0);
        due("in a ship", x.may(0, NONE), 1);
        due("paper 2", x.may(0, 2), UNKNOWN);
        due("paper -1", x.may(0, -1), UNKNOWN);
        due("man 2", x.may(2, NONE), UNKNOWN);
        due("man -9", x.may(NONE, NONE), UNKNOWN);
        PressedMen y = port(2, 0);
        enact(y, 0, "h");
        y.walk(0, 1);
        due("in another street", y.may(0, NONE), 0);
        enact(y, 0, "!" + "&".repeat(29) + "h".repeat(30));
        due("sixty signs", y.may(0, NONE), 1);
        y.walk(0, 0);
        due("sixty signs at home", y.may(0, NONE), 0);
    }

    private static void p23() {
        PressedMen x = port(1, 0, 0);
        enact(x, 0, "p");
        due("no paper", x.mayTruly(0), 0);
        x.paper(1, 0, 0, 20, 20, 60, 60, 1, 4);
        x.paper(0, 1, 0, 20, 20, 60, 60, 1, 4);
        x.paper(0, 0, NONE, 20, 20, 60, 60, 2, 3);
        x.pass(1);
        due("another's is none", x.mayTruly(0), 0);
        due("his own", x.mayTruly(1), 1);
        x.pass(1);
        due("some one of his", x.mayTruly(0), 1);
        x.pass(2);
        due("it is over", x.mayTruly(0), 0);
        due("mayTruly(2)", x.mayTruly(2), UNKNOWN);
        due("mayTruly(-1)", x.mayTruly(-1), UNKNOWN);
    }

    private static void p24() {
        PressedMen x = port(2, 0, 1, 0, 0, 0);
        x.ship(1, 1, 0, 0);
        x.ship(0, 1, 0, 0);
        due("take(5, NONE)", x.take(5, NONE), UNKNOWN);
        due("paper 0", x.take(0, 0), UNKNOWN);
        due("from a street, not right", x.take(0, NONE), 0);
        due("where", x.where(0, 0), 20);
        due("again", x.take(0, NONE), STATE);
        due("again, no paper", x.take(0, 0), UNKNOWN);
        x.board(1, 0);
        due("from trade", x.take(1, NONE), 1);
        x.board(2, 1);
        due("from the king", x.take(2, NONE), STATE);
        x.board(3, 0);
        x.sail(0);
        due("from trade that is out", x.take(3, NONE), STATE);
        x.comeHome(0);
        due("when it came home", x.take(3, NONE), 2);
        x.run(4);
        due("when run", x.take(4, NONE), STATE);
        for (int i = 3; i < 60; i++) {
            x.letGo(0);
            due("taking " + i, x.take(0, NONE), i);
        }
        due("state before full", x.take(0, NONE), STATE);
        x.letGo(0);
        due("taking 60", x.take(0, NONE), FULL);
        due("unknown before full", x.take(0, 1), UNKNOWN);
        due("he stays", x.where(0, 0), 0);
        due("count(4)", x.count(4), 60);
        due("no taking 60", x.taking(60, 0), UNKNOWN);
        due("no taking 61", x.taking(61, 0), UNKNOWN);
        due("taking 59", x.taking(59, 1), 0);
    }

    private static void p25() {
        PressedMen x = port(3, 0, 2);
        enact(x, 0, "&h!p");
        openPaper(x, 1);
        x.pass(3);
        x.take(0, 0);
        int[] want = {3, 0, 0, 0, 0, 1};
        for (int what = 0; what < 6; what++) {
            due("taking(0, " + what + ")", x.taking(0, what), want[what]);
        }
        x.take(1, NONE);
        int[] other = {3, 1, NONE, 2, 1, 0};
        for (int what = 0; what < 6; what++) {
            due("taking(1, " + what + ")", x.taking(1, what), other[what]);
        }
        due("taking(0, 6)", x.taking(0, 6), BAD);
        due("taking(0, -1)", x.taking(0, -1), BAD);
        due("taking(2, 6)", x.taking(2, 6), UNKNOWN);
        due("taking(-1, 0)", x.taking(-1, 0), UNKNOWN);
        PressedMen y = port(1, 0);
        y.ship(1, 1, 0, 0);
        enact(y, 0, "s");
        y.board(0, 0);
        y.take(0, NONE);
        due("from a ship", y.taking(0, 3), 10);
        due("right where he stood", y.taking(0, 5), 1);
    }

    private static PressedMen wrongedPort() {
        PressedMen x = port(1, 0, 0, 0, 0, 0, 0);
        x.ship(0, 1, 0, 0);
        x.ship(1, 3, 0, 0);
        for (int man = 0; man < 5; man++) {
            x.take(man, NONE);
        }
        x.turn(1, 0);
        x.turn(3, 1);
        x.letGo(4);
        return x;
    }

    private static void p26() {
        PressedMen x = wrongedPort();
        due("tender and king's ship", x.wronged(), 3);
        x.sail(0);
        due("also out", x.wronged(), 3);
        x.tender(0, 0);
        x.tender(1, 100);
        x.pass(1);
        due("also sick", x.wronged(), 3);
        x.run(0);
        due("not who ran", x.wronged(), 2);
        x.comeHome(0);
        x.board(4, 0);
        due("his last taking counts still", x.wronged(), 3);
        x.letGo(2);
        enact(x, 0, "h");
        x.take(2, NONE);
        due("not if the last was right", x.wronged(), 2);
        due("nobody", new PressedMen().wronged(), 0);
    }

    private static void p27() {
        PressedMen x = wrongedPort();
        due("0", x.wrongedMan(0), 0);
        due("1", x.wrongedMan(1), 1);
        due("2", x.wrongedMan(2), 2);
        due("3", x.wrongedMan(3), NONE);
        due("-1", x.wrongedMan(-1), NONE);
        x.letGo(0);
        due("0 without him", x.wrongedMan(0), 1);
    }

    private static void p28() {
        PressedMen x = port(3, 1, 2, 0, 0, 1);
        x.ship(0, 1, 0, 0);
        x.ship(1, 1, 0, 0);
        due("in a street", x.letGo(0), STATE);
        x.walk(0, 0);
        x.take(0, NONE);
        due("from the tender", x.letGo(0), 20);
        due("to his home", x.where(0, 0), 1);
        x.board(1, 0);
        due("from the king's", x.letGo(1), 10);
        x.board(1, 1);
        due("from trade", x.letGo(1), 11);
        x.board(1, 1);
        x.sail(1);
        due("out", x.letGo(1), STATE);
        x.tender(0, 0);
        x.tender(1, 100);
        x.take(2, NONE);
        x.pass(1);
        due("sick", x.letGo(2), 21);
        x.run(2);
        due("run", x.letGo(2), STATE);
        x.shy(3, true);
        x.pass(1);
        due("inland", x.letGo(3), STATE);
        due("letGo(5)", x.letGo(5), UNKNOWN);
    }

    private static void p29() {
        PressedMen x = port(2, 0, 1, 1);
        x.ship(1, 1, 0, 0);
        due("nothing yet", x.quiet(), 0);
        x.take(0, NONE);
        x.board(1, 0);
        x.take(1, NONE);
        x.take(2, NONE);
        due("in streets alone", x.quiet(), 2);
        due("since", x.quiet(), 0);
        due("heard(0)", x.heard(0), NONE);
        x.letGo(0);
        x.take(0, NONE);
        due("anew", x.quiet(), 1);
    }

    private static void p30() {
        PressedMen x = port(5, 0, 3, 2);
        chain(x, 4);
        x.pass(10);
        x.take(0, NONE);
        due("there", x.heard(0), 10);
        due("1 far", x.heard(1), 11);
        due("3 far, to come", x.heard(3), 13);
        due("never", x.heard(4), NONE);
        x.pass(1);
        x.take(1, NONE);
        due("the nearer one", x.heard(3), 11);
        due("both alike", x.heard(2), 12);
        due("the first", x.heard(1), 11);
        x.way(3, 4, true);
        due("by a new way", x.heard(4), 12);
        due("heard(5)", x.heard(5), UNKNOWN);
        due("heard(-1)", x.heard(-1), UNKNOWN);
        x.quiet();
        x.take(2, NONE);
        due("since it was quiet", x.heard(0), 13);
        PressedMen y = port(8, 0);
        chain(y, 8);
        for (int i = 0; i < 14; i++) {
            y.pass(60);
        }
        y.pass(59);
        y.take(0, NONE);
        due("beyond the last tide", y.heard(7), 906);
    }

    private static void p31() {
        PressedMen x = new PressedMen();
        due("room", x.tender(0, 40), 10);
        due("room 0", x.tender(0, 0), 40);
        due("room was 0", x.tender(0, 1), 0);
        due("rate", x.tender(1, 100), 50);
        due("rate 0", x.tender(1, 0), 100);
        due("rate was 0", x.tender(1, 1), 0);
        due("room 41", x.tender(0, 41), BAD);
        due("room -1", x.tender(0, -1), BAD);
        due("rate 101", x.tender(1, 101), BAD);
        due("rate -1", x.tender(1, -1), BAD);
        due("what 2", x.tender(2, 0), BAD);
        due("what -1", x.tender(-1, 0), BAD);
        due("what was refused", x.tender(0, 1), 1);
    }

    private static void p32() {
        PressedMen x = port(4, 1, 1, 2, 3, 3, 3);
        due("nobody may be taken", x.met(2, 3), 0);
        enact(x, 0, "&a10!p");
        for (int h = 1; h <= 3; h++) {
            due("one gang for " + h, x.met(1, h), 3);
            due("two gangs for " + h, x.met(2, h), 5);
        }
        openPaper(x, 3);
        due("in truth", x.met(1, 1), 2);
        x.take(0, NONE);
        due("who are in streets", x.met(1, 1), 2);
        x.take(4, NONE);
        due("each street one", x.met(2, 1), 2);
        due("gangs 0", x.met(0, 1), BAD);
        due("gangs 3", x.met(3, 1), BAD);
        due("h 0", x.met(1, 0), BAD);
        due("h 4", x.met(1, 4), BAD);
        PressedMen y = port(1, 0, 0);
        enact(y, 0, "h");
        due("two in one street", y.met(2, 3), 2);
    }

    private static void lies(PressedMen x, int gangs, int h, int... streets) {
        for (int i = 0; i < streets.length; i++) {
            due("laid(" + gangs + ", " + h + ", " + i / h + ", " + i % h + ")",
                    x.laid(gangs, h, i / h, i % h), streets[i]);
        }
    }

    private static void p33() {
        PressedMen x = port(4, 1, 3, 3);
        lies(x, 2, 3, 0, 0, 0, 0, 0, 0);
        enact(x, 0, "h");
        lies(x, 1, 1, 3);
        lies(x, 1, 2, 3, 3);
        lies(x, 2, 1, 1, 3);
        chain(x, 4);
        lies(x, 1, 3, 2, 2, 3);
        lies(x, 2, 1, 1, 3);
        // 1 in the first step and 3 in the next: news of 1 would be 2 far, and is there in the third.
        lies(x, 2, 2, 0, 1, 2, 3);
        lies(x, 2, 3, 0, 0, 1, 2, 2, 3);
        PressedMen y = port(3, 1, 2);
        enact(y, 0, "h");
        chain(y, 3);
        // Who waits in 0 comes too late to 1: it has heard of 2, where the other one must begin.
        lies(y, 2, 1, 1, 2);
        lies(y, 2, 2, 1, 0, 2, 1);
        lies(y, 2, 3, 1, 0, 0, 2, 1, 0);
        PressedMen z = port(4, 1, 2);
        enact(z, 0, "h");
        z.way(0, 1, true);
        z.way(1, 3, true);
        z.way(3, 2, true);
        // News of 2 needs two steps to 1: met there one step before, it is not heard of.
        lies(z, 2, 3, 0, 0, 1, 3, 2, 2);
        PressedMen apart = port(2, 0, 1);
        enact(apart, 0, "h");
        lies(apart, 1, 2, 0, 0);
        lies(apart, 2, 2, 0, 0, 1, 1);
        PressedMen lone = port(2, 1);
        enact(lone, 0, "h");
        lies(lone, 2, 2, 0, 0, 1, 1);
        lone.way(0, 1, true);
        lies(lone, 2, 2, 0, 0, 0, 1);
        due("gangs 0", x.laid(0, 1, 0, 0), BAD);
        due("gangs 3", x.laid(3, 1, 0, 0), BAD);
        due("h 0", x.laid(1, 0, 0, 0), BAD);
        due("h 4", x.laid(1, 4, 0, 0), BAD);
        due("gang 1 of 1", x.laid(1, 1, 1, 0), BAD);
        due("gang 2 of 2", x.laid(2, 1, 2, 0), BAD);
        due("gang -1", x.laid(2, 1, -1, 0), BAD);
        due("step 1 of 1", x.laid(1, 1, 0, 1), BAD);
        due("step -1", x.laid(1, 1, 0, -1), BAD);
    }

    private static void p34() {
        PressedMen x = new PressedMen();
        due("least", x.ship(0, 1, 0, 0), 0);
        due("most", x.ship(1, 20, 20, 20), 1);
        due("kind 2", x.ship(2, 1, 0, 0), BAD);
        due("kind -1", x.ship(-1, 1, 0, 0), BAD);
        due("need 0", x.ship(0, 0, 0, 0), BAD);
        due("need 21", x.ship(0, 21, 0, 0), BAD);
        due("seamen above need", x.ship(0, 3, 4, 0), BAD);
        due("seamen -1", x.ship(0, 3, -1, 0), BAD);
        due("least 21", x.ship(0, 3, 0, 21), BAD);
        due("least -1", x.ship(0, 3, 0, -1), BAD);
        for (int i = 2; i < 10; i++) {
            due("ship " + i, x.ship(0, 1, 1, 0), i);
        }
        due("ship 10", x.ship(0, 1, 1, 0), FULL);
        due("bad before full", x.ship(2, 1, 1, 0), BAD);
        due("count(1)", x.count(1), 10);
        due("no ship 10", x.of(10, 0), UNKNOWN);
        due("no ship 11", x.of(11, 0), UNKNOWN);
        due("ship 9", x.of(9, 1), 1);
    }

    private static void p35() {
        PressedMen x = port(1, 0, 0);
        x.man(20, 0, 0, 60, 0, 2, 0);
        x.man(20, 0, 0, 60, 0, 3, 0);
        x.ship(1, 3, 2, 4);
        for (int man = 0; man < 4; man++) {
            x.board(man, 0);
        }
        int[] want = {1, 3, 2, 4, 1, 4, 3};
        for (int what = 0; what < want.length; what++) {
            due("of(0, " + what + ")", x.of(0, what), want[what]);
        }
        x.sail(0);
        due("out", x.of(0, 4), 0);
        due("of(0, 7)", x.of(0, 7), BAD);
        due("of(0, -1)", x.of(0, -1), BAD);
        due("of(1, 7)", x.of(1, 7), UNKNOWN);
        x.ship(0, 1, 1, 0);
        x.man(20, 0, 0, 60, 0, 3, 0);
        x.board(4, 1);
        due("another ship's men", x.of(1, 5), 1);
        due("another ship's seamen", x.of(1, 6), 1);
        due("of(-1, 0)", x.of(-1, 0), UNKNOWN);
    }

    private static void p36() {
        PressedMen x = port(1, 0, 0, 0, 0);
        x.ship(1, 4, 0, 1);
        x.ship(0, 4, 0, 1);
        due("nobody aboard", x.spare(0, 0), 0);
        for (int man = 0; man < 4; man++) {
            x.board(man, 0);
        }
        due("weather 0", x.spare(0, 0), 3);
        due("weather 2", x.spare(0, 2), 1);
        due("weather 3", x.spare(0, 3), 0);
        due("weather 4", x.spare(0, 4), BAD);
        due("weather -1", x.spare(0, -1), BAD);
        due("the king's", x.spare(1, 0), STATE);
        due("the king's in no weather", x.spare(1, 4), BAD);
        due("ship 2", x.spare(2, 4), UNKNOWN);
        x.sail(0);
        due("out", x.spare(0, 0), 3);
        x.ship(1, 1, 0, 0);
        x.man(20, 0, 0, 60, 0, 5, 0);
        x.board(4, 2);
        due("another ship", x.spare(2, 0), 1);
    }

    private static void p37() {
        PressedMen x = port(1, 0, 0, 0, 0, 0);
        x.ship(0, 1, 0, 0);
        x.ship(1, 9, 0, 0);
        due("first", x.board(0, 0), 1);
        due("again", x.board(0, 0), STATE);
        due("from ship to ship", x.board(0, 1), STATE);
        x.take(1, NONE);
        due("from the tender", x.board(1, 0), STATE);
        due("second", x.board(2, 0), 2);
        due("twice its need", x.board(3, 0), FULL);
        due("state before full", x.board(1, 0), STATE);
        x.sail(0);
        due("out", x.board(3, 0), STATE);
        due("he stays", x.where(3, 0), 0);
        x.shy(4, true);
        x.pass(1);
        due("from inland", x.board(4, 1), STATE);
        due("ship 2", x.board(3, 2), UNKNOWN);
        due("man 5", x.board(5, 0), UNKNOWN);
        due("trade", x.board(3, 1), 1);
        PressedMen y = port(1, 0, 0, 0);
        y.ship(0, 1, 0, 0);
        y.ship(0, 1, 0, 0);
        due("another ship", y.board(0, 1), 1);
        due("another ship's second", y.board(1, 1), 2);
        due("another ship has twice its need", y.board(2, 1), FULL);
    }

    private static void p38() {
        PressedMen x = port(1, 0, 0, 0, 0, 0);
        x.ship(0, 1, 0, 0);
        x.ship(1, 9, 0, 0);
        x.ship(0, 1, 0, 0);
        due("from a street", x.turn(0, 0), STATE);
        x.take(0, NONE);
        due("from the tender", x.turn(0, 0), 20);
        due("in that ship", x.turn(0, 0), STATE);
        due("to trade", x.turn(0, 1), 10);
        due("and back", x.turn(0, 0), 11);
        x.board(1, 0);
        x.board(2, 1);
        due("full", x.turn(2, 0), FULL);
        due("in that ship, full", x.turn(1, 0), STATE);
        x.sail(0);
        due("from one that is out", x.turn(1, 1), STATE);
        due("to one that is out", x.turn(2, 0), STATE);
        x.tender(0, 0);
        x.tender(1, 100);
        x.take(3, NONE);
        x.pass(1);
        due("sick", x.turn(3, 1), STATE);
        due("man 5", x.turn(5, 0), UNKNOWN);
        due("ship 3", x.turn(3, 3), UNKNOWN);
        due("from ship to ship", x.turn(2, 2), 11);
        due("in that other ship", x.turn(2, 2), STATE);
        PressedMen y = port(1, 0, 0, 0);
        y.ship(0, 1, 0, 0);
        y.ship(0, 1, 0, 0);
        y.board(0, 1);
        y.board(1, 1);
        y.board(2, 0);
        due("another ship is full", y.turn(2, 1), FULL);
    }

    private static void p39() {
        PressedMen x = port(2, 0, 1, 0);
        x.ship(0, 1, 0, 0);
        due("at home", x.notAshore(0, 0), 0);
        x.pass(3);
        x.take(0, NONE);
        due("that tide", x.notAshore(0, 3), 1);
        due("the tide ahead", x.notAshore(0, 2), 0);
        x.pass(4);
        x.turn(0, 0);
        due("turned over, never ashore", x.notAshore(0, 7), 5);
        x.pass(2);
        x.letGo(0);
        due("ashore again", x.notAshore(0, 9), 0);
        due("as of then", x.notAshore(0, 8), 6);
        x.board(0, 0);
        due("gone on the same tide", x.notAshore(0, 9), 7);
        x.run(0);
        x.pass(1);
        due("run is not ashore", x.notAshore(0, 10), 8);
        due("a tide to come", x.notAshore(0, 11), BAD);
        due("tide -1", x.notAshore(0, -1), BAD);
        due("man 3", x.notAshore(3, -1), UNKNOWN);
        x.shy(2, true);
        x.pass(1);
        due("inland is ashore", x.notAshore(2, 11), 0);
        due("he is inland", x.where(2, 11), 22);
        PressedMen y = port(1, 0);
        y.run(0);
        y.pass(5);
        due("from ahead of tide 0", y.notAshore(0, 5), 6);
        y.pass(1);
        y.man(20, 0, 0, 60, 0, 5, 0);
        y.run(1);
        due("told late", y.notAshore(1, 6), 1);
    }

    /** King's ships 0 (3, 2), 1 (2, 0), 2 (2, 2); trade 3 (least 1): a seaman and three others aboard. */
    private static PressedMen harbour() {
        PressedMen x = new PressedMen();
        x.ship(0, 3, 2, 0);
        x.ship(0, 2, 0, 0);
        x.ship(0, 2, 2, 0);
        x.ship(1, 4, 0, 1);
        for (int i = 0; i < 4; i++) {
            x.man(20, 0, 0, 60, 0, i == 0 ? 3 : 2, 0);
            x.board(i, 3);
        }
        return x;
    }

    private static void p40() {
        PressedMen x = harbour();
        due("the empty set", x.taken(0, 0), 0);
        due("two of any", x.taken(2, 0), 2);
        due("one seaman is not two", x.taken(1, 0), NONE);
        due("weather 1", x.taken(2, 1), 2);
        due("weather 2", x.taken(2, 2), NONE);
        x.man(20, 0, 0, 60, 0, 9, 0);
        x.take(4, NONE);
        due("one in the tender", x.taken(2, 0), 1);
        due("and one seaman out of trade", x.taken(4, 0), 1);
        due("three", x.taken(1, 0), 2);
        due("needs together", x.taken(3, 0), NONE);
        x.turn(4, 2);
        due("in any of the king's", x.taken(1, 0), 2);
        x.man(20, 0, 0, 60, 0, 0, 0);
        x.board(5, 2);
        due("needs are met, seamen not", x.taken(4, 0), 1);
        due("trade is no king's", x.taken(8, 0), BAD);
        due("no ship", x.taken(16, 0), BAD);
        due("every bit", x.taken(-1, 0), BAD);
        due("the highest bit", x.taken(Integer.MIN_VALUE, 0), BAD);
        due("weather 4", x.taken(0, 4), BAD);
        due("weather -1", x.taken(0, -1), BAD);
        x.letGo(5);
        x.board(5, 1);
        x.letGo(4);
        x.board(4, 1);
        x.sail(1);
        due("out is no bit", x.taken(2, 0), BAD);
        due("men who are out don't count", x.taken(4, 0), NONE);
        x.sail(3);
        due("nor does trade that is out", x.taken(4, 0), NONE);
    }

    private static void p41() {
        PressedMen x = new PressedMen();
        due("no ship", x.fleet(0), 0);
        x = harbour();
        due("one can", x.fleet(0), 2);
        due("none can", x.fleet(2), 0);
        x.man(20, 0, 0, 60, 0, 9, 0);
        x.take(4, NONE);
        due("of like ones the least set", x.fleet(0), 6);
        due("with fewer to spare", x.fleet(1), 2);
        x.man(20, 0, 0, 60, 0, 9, 0);
        x.take(5, NONE);
        due("the most ships, then the least taken", x.fleet(0), 6);
        due("weather 4", x.fleet(4), BAD);
        due("weather -1", x.fleet(-1), BAD);
        PressedMen y = port(1, 0, 0);
        y.ship(1, 1, 0, 0);
        y.ship(0, 2, 0, 0);
        y.ship(0, 1, 0, 0);
        y.ship(0, 1, 0, 0);
        y.board(0, 1);
        y.board(1, 0);
        due("fewest taken before the least set", y.fleet(0), 12);
        for (int i = 0; i < 6; i++) {
            y.ship(0, 20, 0, 0);
        }
        due("ten ships", y.fleet(0), 12);
        PressedMen z = port(1, 0, 0);
        z.ship(0, 1, 0, 0);
        z.ship(0, 1, 0, 0);
        z.take(0, NONE);
        due("the first alone", z.fleet(0), 1);
        z.take(1, NONE);
        due("all of them", z.fleet(0), 3);
    }

    private static void p42() {
        PressedMen x = port(1, 0, 0, 0);
        x.man(20, 0, 0, 60, 0, 2, 0);
        x.ship(0, 2, 1, 0);
        x.ship(1, 1, 0, 0);
        due("nobody", x.sail(0), STATE);
        x.board(3, 0);
        due("one of two", x.sail(0), STATE);
        x.man(20, 0, 0, 60, 0, 2, 0);
        x.board(4, 0);
        due("no seaman", x.sail(0), STATE);
        x.board(0, 0);
        due("three", x.sail(0), 3);
        due("out", x.sail(0), STATE);
        due("men are in it", x.where(0, 0), 10);
        x.board(1, 1);
        due("trade too", x.sail(1), 1);
        x.ship(0, 1, 1, 0);
        x.board(2, 2);
        due("with a seaman", x.sail(2), 1);
        due("ship 3", x.sail(3), UNKNOWN);
        due("ship -1", x.sail(-1), UNKNOWN);
    }

    private static void p43() {
        PressedMen x = port(1, 0, 0);
        x.ship(0, 2, 0, 0);
        due("at home", x.comeHome(0), STATE);
        x.board(0, 0);
        x.board(1, 0);
        x.sail(0);
        x.run(1);
        due("with one", x.comeHome(0), 1);
        due("again", x.comeHome(0), STATE);
        due("of(0, 4)", x.of(0, 4), 1);
        x.ship(1, 1, 0, 0);
        x.board(0, 1);
        x.turn(0, 1);
        x.sail(1);
        due("another ship", x.comeHome(1), 1);
        due("ship 2", x.comeHome(2), UNKNOWN);
    }

    private static void p44() {
        PressedMen x = port(1, 0);
        due("least", x.ticket(0, 1, 1), 0);
        due("most", x.ticket(0, 99, 50), 1);
        due("months 0", x.ticket(0, 0, 1), BAD);
        due("months 100", x.ticket(0, 100, 1), BAD);
        due("wage 0", x.ticket(0, 1, 0), BAD);
        due("wage 51", x.ticket(0, 1, 51), BAD);
        due("man 1", x.ticket(1, 0, 0), UNKNOWN);
        for (int i = 2; i < 40; i++) {
            due("ticket " + i, x.ticket(0, 1, 1), i);
        }
        due("ticket 40", x.ticket(0, 1, 1), FULL);
        due("bad before full", x.ticket(0, 0, 1), BAD);
        due("count(5)", x.count(5), 40);
        due("no ticket 40", x.ticketOf(40, 3), UNKNOWN);
        due("no ticket 41", x.ticketOf(41, 3), UNKNOWN);
    }

    private static void p45() {
        PressedMen x = port(1, 0);
        x.ticket(0, 7, 7);
        due("half, cut", x.sell(0, 0, 50), 24);
        due("is that one's", x.sell(0, 0, 50), STATE);
        due("sold on", x.sell(0, 9, 1), 0);
        due("whole", x.sell(0, 1, 100), 49);
        due("part 0", x.sell(0, 2, 0), BAD);
        due("part 101", x.sell(0, 2, 101), BAD);
        due("bad before state", x.sell(0, 1, 0), BAD);
        due("holder 10", x.sell(0, 10, 0), UNKNOWN);
        due("holder -1", x.sell(0, -1, 0), UNKNOWN);
        due("ticket 1", x.sell(1, 0, 0), UNKNOWN);
        x.pay(0, 2);
        due("paid falsely is not paid", x.sell(0, 2, 10), 4);
        x.pay(0, 2);
        due("paid", x.sell(0, 3, 10), STATE);
        due("purse(0)", x.purse(0), 10000000 - 24);
        due("purse(9)", x.purse(9), 10000000 + 49);
        due("purse(1)", x.purse(1), 10000000 - 49 + 4);
    }

    private static void p46() {
        PressedMen x = port(1, 0);
        x.ticket(0, 3, 5);
        x.ticket(0, 4, 5);
        due("to the man", x.pay(0, NONE), 15);
        due("rightly", x.ticketOf(0, 1), 1);
        due("again", x.pay(0, NONE), 15);
        due("falsely", x.ticketOf(0, 2), 1);
        due("to another", x.pay(1, 4), 20);
        due("not rightly", x.ticketOf(1, 1), 0);
        due("falsely too", x.ticketOf(1, 2), 1);
        due("to the man then", x.pay(1, NONE), 20);
        due("rightly then", x.ticketOf(1, 1), 1);
        due("he got", x.wages(0, false), 50);
        due("purse(4)", x.purse(4), 10000020);
        due("ticket 2", x.pay(2, NONE), UNKNOWN);
        due("holder 10", x.pay(0, 10), UNKNOWN);
        due("holder -1", x.pay(0, -1), UNKNOWN);
        due("what was refused", x.ticketOf(0, 2), 1);
    }

    private static void p47() {
        PressedMen x = port(1, 0);
        x.ticket(0, 3, 5);
        int[] want = {NONE, 0, 0, 15};
        for (int what = 0; what < 4; what++) {
            due("ticketOf(0, " + what + ")", x.ticketOf(0, what), want[what]);
        }
        x.sell(0, 6, 10);
        due("holder", x.ticketOf(0, 0), 6);
        due("its worth stays", x.ticketOf(0, 3), 15);
        x.pay(0, 6);
        x.pay(0, 6);
        due("paid", x.ticketOf(0, 1), 1);
        due("falsely", x.ticketOf(0, 2), 1);
        due("ticketOf(0, 4)", x.ticketOf(0, 4), BAD);
        due("ticketOf(0, -1)", x.ticketOf(0, -1), BAD);
        due("ticketOf(1, 4)", x.ticketOf(1, 4), UNKNOWN);
    }

    private static void p48() {
        PressedMen x = port(1, 0);
        x.ticket(0, 10, 10);
        x.sell(0, 0, 40);
        due("given", x.purse(0), 9999960);
        x.sell(0, 1, 70);
        due("sold on", x.purse(0), 10000030);
        x.pay(0, 1);
        due("paid", x.purse(1), 10000030);
        x.pay(0, 1);
        due("paid falsely", x.purse(1), 10000130);
        due("another", x.purse(9), 10000000);
        due("purse(10)", x.purse(10), UNKNOWN);
        due("purse(NONE)", x.purse(NONE), UNKNOWN);
    }

    private static void p49() {
        PressedMen x = port(1, 0, 0);
        x.ticket(0, 10, 10);
        x.ticket(0, 5, 5);
        x.ticket(1, 2, 2);
        due("owed", x.wages(0, true), 125);
        due("got", x.wages(0, false), 0);
        x.sell(0, 0, 30);
        due("not owed if sold", x.wages(0, true), 25);
        due("got by selling", x.wages(0, false), 30);
        x.sell(0, 1, 30);
        due("sold on is not his", x.wages(0, false), 30);
        x.pay(1, 3);
        due("owed still", x.wages(0, true), 25);
        x.pay(1, NONE);
        due("paid", x.wages(0, true), 0);
        x.pay(0, NONE);
        due("got falsely too", x.wages(0, false), 155);
        due("another's", x.wages(1, true), 4);
        due("wages(2, true)", x.wages(2, true), UNKNOWN);
        due("wages(-1, false)", x.wages(-1, false), UNKNOWN);
    }

    private static void p50() {
        PressedMen x = port(2, 0, 0, 1);
        x.ship(0, 1, 0, 0);
        x.ship(0, 1, 0, 0);
        openPaper(x, 0);
        x.act(0);
        x.take(0, NONE);
        x.letGo(0);
        x.take(0, NONE);
        x.ticket(0, 1, 1);
        x.run(1);
        int[] want = {3, 2, 1, 1, 2, 1, 2, 2};
        for (int what = 0; what < want.length; what++) {
            due("count(" + what + ")", x.count(what), want[what]);
        }
        due("count(8)", x.count(8), BAD);
        due("count(-1)", x.count(-1), BAD);
        x.shy(2, true);
        x.way(0, 1, true);
        x.pass(1);
        due("inland is no street", x.count(6), 3);
    }

    private static void firstHalf(int number) {
        switch (number) {
            case 1 -> p1();
            case 2 -> p2();
            case 3 -> p3();
            case 4 -> p4();
            case 5 -> p5();
            case 6 -> p6();
            case 7 -> p7();
            case 8 -> p8();
            case 9 -> p9();
            case 10 -> p10();
            case 11 -> p11();
            case 12 -> p12();
            case 13 -> p13();
            case 14 -> p14();
            case 15 -> p15();
            case 16 -> p16();
            case 17 -> p17();
            case 18 -> p18();
            case 19 -> p19();
            case 20 -> p20();
            case 21 -> p21();
            case 22 -> p22();
            case 23 -> p23();
            case 24 -> p24();
            default -> p25();
        }
    }

    private static void secondHalf(int number) {
        switch (number) {
            case 26 -> p26();
            case 27 -> p27();
            case 28 -> p28();
            case 29 -> p29();
            case 30 -> p30();
            case 31 -> p31();
            case 32 -> p32();
            case 33 -> p33();
            case 34 -> p34();
            case 35 -> p35();
            case 36 -> p36();
            case 37 -> p37();
            case 38 -> p38();
            case 39 -> p39();
            case 40 -> p40();
            case 41 -> p41();
            case 42 -> p42();
            case 43 -> p43();
            case 44 -> p44();
            case 45 -> p45();
            case 46 -> p46();
            case 47 -> p47();
            case 48 -> p48();
            case 49 -> p49();
            default -> p50();
        }
    }

    public static void main(String[] args) {
        for (promise = 1; promise <= 50; promise++) {
            if (promise <= 25) {
                firstHalf(promise);
            } else {
                secondHalf(promise);
            }
        }
        System.out.println(asked + " answers, " + wrong + " wrong");
        if (wrong != 0) {
            System.exit(1);
        }
    }
}
