/** Sentences of the document that name no edge of their own: each by its words, with what it asks of a plain turtle. */
public final class SentencesTest {
    private static final String SCUTES = "scute l at 4,5 holds 40;scute m at 5,5 holds 40;scute r at 6,5 holds 40";
    private static final String STEADY = "keel 5 mid 5 feels 10 dives 30 calm 0 hungry 30";

    private static TurtleBack steady(String rest) {
        return Due.turtle(STEADY, "at 5,5 heads 0", rest);
    }

    private static void edgesAre(String call, int[] got, int... due) {
        for (int what = 0; what < 4; what++) Due.is(call + ", " + what, got[what], due[what]);
    }

    private static int[] spans(TurtleBack x, int n) {
        return new int[] {x.span(n, 0), x.span(n, 1), x.span(n, 2), x.span(n, 3)};
    }

    private static int[] wasIn(TurtleBack x, int day) {
        return new int[] {x.was(day, 0), x.was(day, 1), x.was(day, 2), x.was(day, 3)};
    }

    // ---- terms I

    private static void namesAndWholes() {
        String scutes = "scute a at 1,1 holds 9;scute b at 1,2 holds 9;";
        Due.by("2 a NAME that isn't told");
        Due.fault(scutes + "house h on aa weighs 1", 2, scutes.length() + 11);
        Due.fault(scutes + "moult isles day 1", 2, scutes.length() + 6);
        Due.by("3 a NAME told again, a SCUTE that moults or leaves told again; at it");
        Due.fault(scutes + "isle  b at 1,1", 3, scutes.length() + 6);
        Due.fault(scutes + "moult b day 1;young  b day 2", 3, scutes.length() + 21);
        Due.by("4 a WHOLE out of bounds; at it");
        Due.fault(scutes + "weed at 9, 10", 4, scutes.length() + 11);
        Due.fault(scutes + "family f on b weighs  000", 4, scutes.length() + 22);
        Due.by("law keel WHOLE mid WHOLE feels WHOLE dives WHOLE calm WHOLE hungry WHOLE");
        Due.fault("law mid", 1, 4);
        Due.fault("law keel 1 mid 2 feels 3 calm", 1, 25);
        Due.by("or isle NAME at WHOLE, WHOLE from WHOLE to WHOLE buys WHOLE");
        Due.fault("isle i at 1,1 to", 1, 14);
        Due.fault("isle i at 1,1 from 1 to 2 worth", 1, 26);
    }

    // ---- terms II

    private static void thereLostOrAway() {
        Due.by("THINGS are houses and families; each is THERE, LOST, or AWAY");
        TurtleBack x = steady("scute a at 5,5 holds 9;scute b at 5,5 holds 9;scute c at 5,5 holds 9"
                + ";house h on a weighs 1 ties 1 worth 1;house i on b weighs 1 ties 1 worth 1;house k on c weighs 1 ties 1 worth 1"
                + ";family f on a weighs 2;family g on b weighs 2;family p on c weighs 2;moult a day 1;young b day 2");
        int[][] fates = {{0, 0, 0}, {1, 0, 0}, {1, 2, 0}, {1, 2, 0}};
        for (int t = 0; t < fates.length; t++) {
            if (t > 0) x.days(1);
            for (int i = 0; i < 3; i++) {
                String when = " " + i + " behind DAY " + t;
                Due.is("house" + when, x.house(i, 0), fates[t][i]);
                Due.is("family" + when, x.family(i, 0), fates[t][i]);
                Due.is("LOAD of scute" + when, x.scute(i, 1), fates[t][i] == 0 ? 3 : 0);
                Due.is("scute" + when + " is GONE", x.scute(i, 0), fates[t][i] == 0 ? 0 : 1);
                Due.is("SCUTE of family" + when, x.family(i, 1), i);
            }
        }
    }

    private static void listAndPitch() {
        String rest = "scute u at 5,9 holds 40;scute d at 0,0 holds 40;house h on u weighs 7 ties 1 worth 1;family f on d weighs 3";
        TurtleBack x = Due.turtle("keel 2 mid 4 feels 99 dives 30 calm 0 hungry 30", "at 5,5 heads 0", rest);
        Due.by("PITCH: second WHOLE less mid");
        Due.is("PITCH", x.pitch(), 7 * 5 - 3 * 4);
        Due.is("LIST", x.list(), 7 * 3 - 3 * 2);
        x.move(0, 0);
        Due.is("PITCH, both on the first", x.pitch(), 10 * 5);
        Due.is("LIST, both on the first", x.list(), 10 * 3);
        Due.by("PITCH. -100,000: 1 (no BEAST)");
        TurtleBack none = new TurtleBack();
        Due.refused(none, "pitch", none.pitch(), -100_000, 1);
        Due.by("LIST. -100,000: 1 (no BEAST)");
        Due.refused(none, "list", none.list(), -100_000, 1);
    }

    private static void theSea() {
        Due.by("THE SEA has CELLS 0 .. 9 by 0 .. 9");
        TurtleBack x = steady(SCUTES);
        for (int cx = -1; cx <= 10; cx++) {
            for (int cy = -1; cy <= 10; cy++) {
                boolean isCell = cx >= 0 && cx <= 9 && cy >= 0 && cy <= 9;
                long due = !isCell ? -1 : cx == 5 && cy == 5 ? 1 : 0;
                Due.is("ways(0, " + cx + ", " + cy + ")", x.ways(0, cx, cy), due);
                Due.is("its trouble", x.trouble(), isCell ? 0 : 2);
            }
        }
    }

    private static void hunger() {
        Due.by("HUNGER (0 at first) is 1 more");
        TurtleBack x = Due.turtle(STEADY, "at 5,2 heads 0", SCUTES + ";weed at 5,1");
        int[] hungers = {0, 0, 1, 2, 0, 1, 2};
        for (int t = 0; t < hungers.length; t++) {
            if (t > 0) x.days(1);
            Due.is("HUNGER behind DAY " + t, x.now(3), hungers[t]);
        }
        Due.by("Of the beast now 0, 1 its CELL, 2 HEADING, 3 HUNGER");
        Due.is("first", x.now(0), 5);
        Due.is("second, by the upper end and back", x.now(1), 3);
        Due.is("HEADING", x.now(2), 4);
    }

    // ---- terms III

    private static void trimAndWhoIsWhere() {
        TurtleBack x = steady(SCUTES + ";family f on l weighs 3;family g on r weighs 8");
        Due.by("TRIM by a, b (0 .. 9,999): how many move; -2 if it can't be");
        int[] dues = {2, 2, 2, 1, 1, 0};
        for (int a = 0; a <= 5; a++) Due.is("trim(" + a + ", 0)", x.trim(a, 0), dues[a]);
        Due.by("The SCUTE of a family by that. NONE: 1 (family, or it isn't THERE); 2; 6 (it can't be)");
        int[][] homes = {{1, 1}, {1, 1}, {1, 1}, {0, 1}, {0, 1}, {0, 2}};
        for (int a = 0; a <= 5; a++) {
            for (int f = 0; f < 2; f++) Due.is("trimAt(" + a + ", 0, " + f + ")", x.trimAt(a, 0, f), homes[a][f]);
        }
        Due.by("HELM. NONE: 1 (no BEAST)");
        Due.is("helm: 11 either way", x.helm(), 7);
        Due.is("nobody moved", x.list(), 5);
    }

    private static void steersAsTheHelmLets() {
        Due.by("if each DAY it TURNS as one likes of HELM's (left, none, right)");
        TurtleBack none = steady(SCUTES);
        Due.is("helm", none.helm(), 2);
        int[] up = {5, 4, 3, 2, 1, 0};
        for (int second = 0; second <= 5; second++) Due.is("straight on", none.steer(5, second), up[second]);
        for (int second = 6; second <= 9; second++) Due.is("by the upper end", none.steer(5, second), second + 6);
        Due.by("STEER; -2. NONE: 1 (no BEAST); 2 (CELL)");
        for (int second = 0; second <= 9; second++) Due.is("beside", none.steer(4, second), -2);
        for (int i = 0; i < 15; i++) Due.is("turn(5, 9, " + i + ")", none.turn(5, 9, i), 1);
        TurtleBack left = steady(SCUTES + ";house h on l weighs 10 ties 1 worth 1");
        Due.is("helm", left.helm(), 1);
        int[][] round = {{5, 5}, {4, 4}, {3, 4}, {2, 5}, {2, 6}, {3, 7}, {4, 7}, {5, 6}};
        for (int t = 0; t < 8; t++) {
            Due.is("round by the left", left.steer(round[t][0], round[t][1]), t);
            for (int i = 0; i < t; i++) Due.is("its turn", left.turn(round[t][0], round[t][1], i), 0);
        }
        Due.is("within the round", left.steer(3, 5), -2);
    }

    private static void chartsOfNow() {
        Due.by("if LIST, PLEASED, what is GONE stay as they are now");
        TurtleBack calm = steady(SCUTES + ";field on m itch 9");
        Due.is("it stays calm in the chart", calm.may(4), 1);
        Due.is("its ways", calm.ways(4, 5, 1), 81);
        calm.days(1);
        Due.is("it isn't calm now", calm.may(1), 3);
        TurtleBack list = steady(SCUTES + ";house h on r weighs 10 ties 1 worth 1;moult r day 1");
        Due.is("by LIST in the chart, though r moults", list.ways(2, 7, 4), 9);
        list.days(1);
        Due.is("LIST now", list.list(), 0);
        Due.is("as it was", list.ways(2, 5, 2), 9);
        TurtleBack whims = Due.turtle("keel 5 mid 5 feels 10 dives 30 calm 1 hungry 30", "at 5,5 heads 2", SCUTES);
        Due.by("CHART: WAYS to a CELL. -1: 1 (no BEAST); 2 (n 0 .. 12; CELL)");
        int[][] two = {{7, 4, 2}, {7, 5, 1}, {7, 6, 2}, {7, 3, 1}, {7, 7, 1}, {6, 3, 1}, {6, 7, 1}, {5, 5, 0}};
        for (int[] w : two) Due.is("ways(2, " + w[0] + ", " + w[1] + ")", whims.ways(2, w[0], w[1]), w[2]);
        Due.by("At how many CELLS it may be behind n DAYS. NONE: 1 (no BEAST); 2");
        Due.is("may(2)", whims.may(2), 7);
        Due.by("Of these 0 the least first WHOLE, 1 the greatest, 2 the least second one, 3 the greatest");
        edgesAre("span(2)", spans(whims, 2), 6, 7, 3, 7);
    }

    private static void seenFitsWas() {
        TurtleBack x = steady(SCUTES);
        x.days(7);
        Due.by("FITS: CELL and HEADING at DAY 0");
        x.seen(0, 5, 5);
        Due.is("each HEADING of a CELL", x.fits(), 8);
        Due.by("SEEN: how many. NONE: 1 (no BEAST); 2; 3");
        Due.is("seen", x.seen(3, 5, 2), 2);
        Due.by("How many FITS. NONE: 1 (no BEAST)");
        Due.is("0 0 0, 7 0 1, 1 0 7", x.fits(), 5);
        Due.by("WAS in a DAY: by all FITS and turns up to the last DAY that was SEEN, the least and greatest WHOLES");
        edgesAre("was(0)", wasIn(x, 0), 5, 5, 5, 5);
        edgesAre("was(1)", wasIn(x, 1), 4, 6, 4, 4);
        edgesAre("was(2)", wasIn(x, 2), 4, 6, 3, 3);
        edgesAre("was(3)", wasIn(x, 3), 5, 5, 2, 2);
        edgesAre("was(4)", wasIn(x, 4), -1, -1, -1, -1);
        TurtleBack aslant = steady(SCUTES);
        aslant.seen(2, 2, 2);
        aslant.seen(0, 0, 0);
        Due.is("aslant twice", aslant.fits(), 3);
        edgesAre("was(1)", wasIn(aslant, 1), 1, 1, 1, 1);
    }

    private static void tyingDown() {
        TurtleBack x = steady(SCUTES + ";house h on l weighs 1 ties 20 worth 30;house i on r weighs 1 ties 15 worth 20"
                + ";house k on r weighs 1 ties 10 worth 10;family f on l weighs 1;family g on r weighs 1");
        int[][] due = {{9, 0, 0}, {10, 10, 4}, {14, 10, 4}, {15, 20, 2}, {19, 20, 2}, {20, 30, 1}, {29, 30, 1}, {30, 40, 5},
            {34, 40, 5}, {35, 50, 3}, {44, 50, 3}, {45, 60, 7}, {360, 60, 7}};
        Due.by("SAVE: the worth. NONE: 1 (no BEAST); 2 (0 .. 360)");
        for (int[] d : due) Due.is("save(" + d[0] + ")", x.save(d[0]), d[1]);
        Due.by("The houses by that, as bits (TIED ones, too)");
        for (int[] d : due) Due.is("saved(" + d[0] + ")", x.saved(d[0]), d[2]);
        Due.by("MUST; -2 if it can't be. NONE: 1 (no BEAST)");
        Due.is("one house each", x.must(), 30);
        Due.by("SHELTER; -2. NONE: 1 (no BEAST)");
        Due.is("both on r", x.shelter(), 10);
        x.move(0, 1);
        Due.is("nobody can be safe on m", x.must(), -2);
        Due.is("both on r, one from m", x.shelter(), 10);
        Due.by("TIE of a house, or untied: true; false: 1; 5 (it isn't THERE, or is so)");
        Due.is("tie", x.tie(0, true), true);
        Due.refused(x, "tie again", x.tie(0, true), 5);
        Due.is("l costs nothing", x.shelter(), 0);
        Due.is("with the TIED one", x.saved(10), 5);
        Due.is("untied", x.tie(0, false), true);
        Due.refused(x, "untied again", x.tie(0, false), 5);
        Due.is("as before", x.shelter(), 10);
    }

    // ---- promises of acts, of sizes

    private static void actsAndWhatTheyChange() {
        TurtleBack x = steady(SCUTES + ";family f on m weighs 5;field on l itch 2");
        x.days(3);
        Due.by("PLEASED. -1,000: 1 (no BEAST)");
        Due.is("PLEASED", x.pleased(), -6);
        Due.by("SCRAPE of a SCUTE");
        Due.is("scrape", x.scrape(2), true);
        Due.is("BARNACLES", x.scute(2, 2), 0);
        Due.is("BARNACLES beside", x.scute(1, 2), 3);
        Due.is("PLEASED 1 more", x.pleased(), -5);
        Due.by("MOVE of a family to a SCUTE: true; false: 1");
        Due.is("move", x.move(0, 2), true);
        Due.is("its SCUTE", x.family(0, 1), 2);
        Due.is("LIST", x.list(), 5);
        Due.is("pay", x.pay(3), true);
        Due.is("PLEASED 3 more", x.pleased(), -2);
        Due.is("COINS", x.now(4), 0);
        Due.by("The latest ACT that can be is taken back: true; false: 6 (there is none)");
        int[][] behind = {{-5, 5, 0, 3}, {-5, 0, 0, 3}, {-6, 0, 3, 3}};
        for (int i = 0; i < 3; i++) {
            Due.is("size(12)", x.size(12), 3 - i);
            Due.is("undo", x.undo(), true);
            Due.is("PLEASED", x.pleased(), behind[i][0]);
            Due.is("LIST", x.list(), behind[i][1]);
            Due.is("BARNACLES", x.scute(2, 2), behind[i][2]);
            Due.is("COINS", x.now(4), behind[i][3]);
        }
        Due.refused(x, "undo", x.undo(), 6);
    }

    private static void worthOfWhatIsLost() {
        Due.by("Worth of houses LOST. NONE: 1 (no BEAST)");
        TurtleBack x = Due.turtle("keel 5 mid 5 feels 10 dives 2 calm 9 hungry 30", "at 5,5 heads 0", SCUTES
                + ";house h on l weighs 1 ties 1 worth 7;house i on m weighs 1 ties 1 worth 11;house k on r weighs 1 ties 1 worth 13"
                + ";moult l day 1;young m day 1");
        int[] lost = {0, 7, 20, 20};
        for (int t = 0; t < lost.length; t++) {
            if (t > 0) x.days(1);
            Due.is("lost behind DAY " + t, x.lost(), lost[t]);
        }
        Due.is("the first", Due.led(x, 0), 0);
        Due.is("the second: the one AWAY isn't LOST", Due.led(x, 1), 2);
        Due.is("a third", Due.led(x, 2), -1);
    }

    private static void sizes() {
        Due.by("0 scutes, 1 houses, 2 families, 3 fields, 4 weeds, 5 isles, 6 those that moult or leave, 7 DAYS that passed,"
                + " 8 SEED, 9 bytes of THE TAPE, 10 what was SEEN, 11 images, 12 ACTS that can be taken back");
        TurtleBack x = steady(SCUTES + ";house h on l weighs 1 ties 1 worth 7;house i on m weighs 1 ties 1 worth 11"
                + ";family f on l weighs 1;field on m itch 1;weed at 0,0;weed at 0,1;weed at 0,1;weed at 9,9"
                + ";isle k at 1,1 from 1 to 1 buys 1;isle n at 1,1 from 1 to 1 buys 1;isle o at 1,1 from 1 to 1 buys 1"
                + ";moult r day 99;young l day 99");
        x.days(5);
        x.seed(321);
        x.feed(0, 0, 0, 0, 0);
        x.feed(0, 0, 0, 0, 0);
        for (int i = 0; i < 6; i++) x.seen(i, i, i);
        for (int i = 0; i < 4; i++) x.image();
        for (int i = 0; i < 8; i++) x.tie(0, i % 2 == 0);
        int[] due = {3, 2, 1, 1, 4, 3, 2, 5, 321, 40, 6, 4, 8};
        TurtleBack none = new TurtleBack();
        for (int what = 0; what < due.length; what++) {
            Due.is("size(" + what + ")", x.size(what), due[what]);
            Due.is("size(" + what + ") of a new object", none.size(what), 0);
        }
    }

    public static void main(String[] args) {
        namesAndWholes();
        thereLostOrAway();
        listAndPitch();
        theSea();
        hunger();
        trimAndWhoIsWhere();
        steersAsTheHelmLets();
        chartsOfNow();
        seenFitsWas();
        tyingDown();
        actsAndWhatTheyChange();
        worthOfWhatIsLost();
        sizes();
        Due.end();
    }
}
