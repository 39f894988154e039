/** Promises 28 to 33: charts of where it may be, and where it was by what was seen. */
public final class ChartsTest {
    private static final String SCUTE = "scute m at 5,5 holds 90";
    private static final long[] POWERS = {1, 3, 9, 27, 81, 243, 729, 2187, 6561, 19683, 59049, 177147, 531441};

    private static TurtleBack turtle(String law, String begins, String rest) {
        return Due.turtle("keel 5 mid 5 feels 10 " + law, begins, rest);
    }

    private static void waysAre(TurtleBack x, int n, int first, int second, long ways) {
        Due.is("ways(" + n + ", " + first + ", " + second + ")", x.ways(n, first, second), ways);
        Due.is("its trouble", x.trouble(), 0);
    }

    private static void spanIs(TurtleBack x, int n, int many, int... edges) {
        Due.is("may(" + n + ")", x.may(n), many);
        Due.is("its trouble", x.trouble(), 0);
        for (int what = 0; what < 4; what++) {
            Due.is("span(" + n + ", " + what + ")", x.span(n, what), edges[what]);
            Due.is("its trouble", x.trouble(), 0);
        }
    }

    private static long all(TurtleBack x, int n) {
        long all = 0;
        for (int cell = 0; cell < 100; cell++) all += x.ways(n, cell % 10, cell / 10);
        return all;
    }

    private static void whimsHaveThreeWays() {
        TurtleBack x = turtle("dives 30 calm 9 hungry 30", "at 5,5 heads 0", SCUTE);
        waysAre(x, 0, 5, 5, 1);
        waysAre(x, 0, 5, 4, 0);
        waysAre(x, 1, 4, 4, 1);
        waysAre(x, 1, 5, 4, 1);
        waysAre(x, 1, 6, 4, 1);
        waysAre(x, 1, 5, 5, 0);
        waysAre(x, 2, 5, 3, 1);
        waysAre(x, 2, 4, 3, 2);
        waysAre(x, 2, 6, 3, 2);
        waysAre(x, 2, 3, 4, 1);
        waysAre(x, 2, 3, 3, 1);
        waysAre(x, 2, 7, 4, 1);
        spanIs(x, 0, 1, 5, 5, 5, 5);
        spanIs(x, 1, 3, 4, 6, 4, 4);
        spanIs(x, 2, 7, 3, 7, 3, 4);
        for (int n = 0; n <= 12; n++) {
            TurtleBack fresh = turtle("dives 30 calm 9 hungry 30", "at 5,5 heads 0", SCUTE);
            Due.is("all ways of " + n + " days", all(fresh, n), POWERS[n]);
        }
        Due.is("no day passed", x.size(7), 0);
        Due.is("no draw", x.size(8), 0);
    }

    private static void otherDaysHaveThreeAlike() {
        TurtleBack list = turtle("dives 30 calm 9 hungry 30", "at 5,5 heads 0", SCUTE
                + ";scute r at 6,5 holds 90;house h on r weighs 10 ties 1 worth 1");
        waysAre(list, 1, 6, 4, 3);
        waysAre(list, 2, 7, 4, 9);
        waysAre(list, 8, 5, 5, 6561);
        spanIs(list, 8, 1, 5, 5, 5, 5);
        TurtleBack left = turtle("dives 30 calm 9 hungry 30", "at 5,5 heads 0", SCUTE
                + ";scute l at 4,5 holds 90;house h on l weighs 10 ties 1 worth 1");
        waysAre(left, 2, 3, 4, 9);
        TurtleBack calm = turtle("dives 30 calm 0 hungry 30", "at 5,5 heads 0", SCUTE);
        waysAre(calm, 5, 5, 0, 243);
        waysAre(calm, 6, 5, 0, 729);
        waysAre(calm, 12, 5, 6, 531441);
        spanIs(calm, 12, 1, 5, 5, 6, 6);
    }

    private static void hungerTurnsItToWeed() {
        TurtleBack x = turtle("dives 30 calm 9 hungry 2", "at 5,5 heads 0", SCUTE + ";weed at 5,2");
        waysAre(x, 1, 4, 4, 1);
        waysAre(x, 2, 5, 3, 9);
        waysAre(x, 3, 5, 2, 27);
        waysAre(x, 4, 5, 1, 27 + 0);
        waysAre(x, 4, 4, 1, 27);
        waysAre(x, 4, 6, 1, 27);
        waysAre(x, 5, 5, 2, 243);
        x.days(1);
        waysAre(x, 1, 5, 3, 3);
        TurtleBack y = turtle("dives 30 calm 9 hungry 3", "at 5,5 heads 0", SCUTE + ";weed at 5,4;weed at 5,9");
        waysAre(y, 2, 5, 3, 1);
        waysAre(y, 3, 5, 4, 3 * 2);
        waysAre(y, 3, 5, 2, 1);
    }

    private static void itIsDrawnAsItIsNow() {
        TurtleBack x = turtle("dives 1 calm 2 hungry 30", "at 5,5 heads 0", SCUTE
                + ";scute r at 6,5 holds 90;house h on r weighs 10 ties 1 worth 1;family f on m weighs 1;moult r day 1");
        waysAre(x, 3, 8, 5, 27);
        x.days(2);
        Due.is("by whims now", x.may(1), 3);
        TurtleBack paid = turtle("dives 30 calm 2 hungry 30", "at 5,9 heads 0", SCUTE + ";family f on m weighs 1");
        paid.days(2);
        Due.is("by whims", paid.may(1), 3);
        paid.pay(2);
        Due.is("calm", paid.may(1), 1);
        paid.undo();
        Due.is("by whims", paid.may(1), 3);
    }

    private static void chartsOfACorner() {
        TurtleBack x = turtle("dives 30 calm 0 hungry 30", "at 0,0 heads 0", SCUTE);
        for (int what = 0; what < 4; what++) {
            Due.is("span(0, " + what + ")", x.span(0, what), 0);
            Due.is("span(3, " + what + ")", x.span(3, what), what < 2 ? 0 : 2);
        }
        Due.is("may(0)", x.may(0), 1);
        waysAre(x, 1, 0, 0, 3);
        TurtleBack weed = turtle("dives 30 calm 0 hungry 30", "at 0,1 heads 0", SCUTE + ";weed at 0,0");
        waysAre(weed, 1, 0, 0, 3);
        waysAre(weed, 2, 0, 0, 9);
        waysAre(weed, 3, 0, 1, 27);
        x.seen(0, 0, 1);
        x.seen(1, 0, 0);
        x.seen(2, 0, 0);
        Due.is("fits", x.fits(), 3);
        for (int what = 0; what < 4; what++) Due.is("was(1, " + what + ")", x.was(1, what), 0);
        Due.is("was(2, 0)", x.was(2, 0), 0);
    }

    private static void chartsThatAreRefused() {
        TurtleBack x = turtle("dives 30 calm 9 hungry 30", "at 5,5 heads 0", SCUTE);
        int[][] wrong = {{-1, 0, 0}, {13, 0, 0}, {0, -1, 0}, {0, 10, 0}, {0, 0, -1}, {0, 0, 10}};
        for (int[] w : wrong) Due.refused(x, "ways " + w[0] + " " + w[1] + " " + w[2], x.ways(w[0], w[1], w[2]), -1, 2);
        Due.refused(x, "may(-1)", x.may(-1), -1, 2);
        Due.refused(x, "may(13)", x.may(13), -1, 2);
        Due.refused(x, "span(-1, 0)", x.span(-1, 0), -1, 2);
        Due.refused(x, "span(13, 3)", x.span(13, 3), -1, 2);
        Due.refused(x, "span(0, -1)", x.span(0, -1), -1, 1);
        Due.refused(x, "span(13, 4)", x.span(13, 4), -1, 1);
    }

    private static void seenAddsUp() {
        TurtleBack x = turtle("dives 30 calm 9 hungry 30", "at 5,5 heads 0", SCUTE);
        int[][] wrong = {{-1, 0, 0}, {21, 0, 0}, {0, -1, 0}, {0, 10, 0}, {0, 0, -1}, {0, 0, 10}};
        for (int[] w : wrong) Due.refused(x, "seen " + w[0] + " " + w[1] + " " + w[2], x.seen(w[0], w[1], w[2]), -1, 2);
        Due.is("nothing SEEN", x.size(10), 0);
        Due.is("all fit", x.fits(), 800);
        for (int i = 1; i <= 6; i++) Due.is("seen", x.seen(20, 9, 9), i);
        Due.is("trouble", x.trouble(), 0);
        Due.is("SEEN", x.size(10), 6);
        Due.refused(x, "seen", x.seen(0, 0, 0), -1, 3);
        Due.refused(x, "seen", x.seen(21, 0, 0), -1, 2);
        Due.is("SEEN", x.size(10), 6);
    }

    private static void fitsSwimThrough() {
        TurtleBack x = turtle("dives 30 calm 9 hungry 30", "at 1,1 heads 0", SCUTE);
        x.seen(1, 5, 4);
        Due.is("eight cells round, three headings each", x.fits(), 24);
        Due.is("trouble", x.trouble(), 0);
        x.seen(0, 5, 5);
        Due.is("from one of them", x.fits(), 3);
        x.seen(2, 7, 3);
        Due.is("none", x.fits(), 0);
        TurtleBack edge = turtle("dives 30 calm 9 hungry 30", "at 1,1 heads 0", SCUTE);
        edge.seen(0, 5, 0);
        edge.seen(1, 5, 0);
        Due.is("headings that can turn to 7, 0, 1", edge.fits(), 5);
        edge.seen(2, 4, 1);
        Due.is("back by 5 behind 0 or 1", edge.fits(), 4);
        edge.seen(2, 4, 1);
        Due.is("the same once more", edge.fits(), 4);
        edge.seen(2, 5, 1);
        Due.is("two cells in one day", edge.fits(), 0);
        TurtleBack corner = turtle("dives 30 calm 9 hungry 30", "at 1,1 heads 0", SCUTE);
        corner.seen(0, 0, 0);
        corner.seen(1, 0, 0);
        Due.is("from a corner", corner.fits(), 7);
        TurtleBack far = turtle("dives 30 calm 9 hungry 30", "at 1,1 heads 0", SCUTE);
        far.seen(9, 9, 9);
        far.seen(0, 0, 0);
        Due.is("nine days aslant", far.fits(), 3);
    }

    private static void wasIsBySightings() {
        TurtleBack x = turtle("dives 30 calm 9 hungry 30", "at 1,1 heads 0", SCUTE);
        Due.refused(x, "nothing was SEEN", x.was(0, 0), -1, 6);
        x.seen(4, 5, 4);
        x.seen(0, 5, 8);
        Due.is("fits", x.fits(), 5);
        int[][] edges = {{5, 5, 8, 8}, {4, 6, 7, 7}, {4, 6, 6, 6}, {4, 6, 5, 5}, {5, 5, 4, 4}};
        for (int day = 0; day <= 4; day++) {
            for (int what = 0; what < 4; what++) {
                Due.is("was(" + day + ", " + what + ")", x.was(day, what), edges[day][what]);
                Due.is("its trouble", x.trouble(), 0);
            }
        }
        Due.refused(x, "behind the last that was SEEN", x.was(5, 0), -1, 6);
        Due.refused(x, "was(21, 0)", x.was(21, 0), -1, 2);
        Due.refused(x, "was(-1, 0)", x.was(-1, 0), -1, 2);
        Due.refused(x, "was(0, 4)", x.was(0, 4), -1, 1);
        Due.refused(x, "was(21, -1)", x.was(21, -1), -1, 1);
        x.seen(2, 4, 6);
        Due.is("was(1, 1)", x.was(1, 1), 5);
        Due.is("was(3, 1)", x.was(3, 1), 5);
        x.seen(20, 5, 5);
        Due.is("was(20, 0)", x.was(20, 0), 5);
        Due.is("was(19, 0)", x.was(19, 0), 4);
        Due.is("was(19, 3)", x.was(19, 3), 6);
        x.seen(3, 9, 9);
        Due.refused(x, "nothing FITS", x.was(0, 0), -1, 6);
        Due.refused(x, "a number ahead", x.was(21, 0), -1, 2);
    }

    private static void sightingsAreNotOfNow() {
        TurtleBack x = turtle("dives 30 calm 9 hungry 30", "at 1,1 heads 0", SCUTE);
        x.days(3);
        x.seen(0, 9, 9);
        Due.is("fits", x.fits(), 8);
        x.days(3);
        Due.is("SEEN stays", x.size(10), 1);
        Due.is("was(0, 3)", x.was(0, 3), 9);
        Due.refused(x, "was(1, 3)", x.was(1, 3), -1, 6);
        TurtleBack corner = turtle("dives 30 calm 9 hungry 30", "at 1,1 heads 0", SCUTE);
        corner.seen(0, 0, 0);
        Due.is("fits", corner.fits(), 8);
        Due.is("was(0, 0)", corner.was(0, 0), 0);
    }

    public static void main(String[] args) {
        whimsHaveThreeWays();
        otherDaysHaveThreeAlike();
        hungerTurnsItToWeed();
        itIsDrawnAsItIsNow();
        chartsOfACorner();
        chartsThatAreRefused();
        seenAddsUp();
        fitsSwimThrough();
        wasIsBySightings();
        sightingsAreNotOfNow();
        Due.end();
    }
}
