/** Promises 23 to 27: trim by the fewest that move, the helm, the soonest course. */
public final class HelmTest {
    private static TurtleBack turtle(String rest) {
        return Due.turtle("keel 5 mid 5 feels 10 dives 30 calm 0 hungry 30", "at 5,5 heads 0", rest);
    }

    private static void trimIs(TurtleBack x, int a, int b, int many, int... homes) {
        String call = "trim(" + a + ", " + b + ")";
        Due.is(call, x.trim(a, b), many);
        Due.is(call + ", its trouble", x.trouble(), 0);
        for (int f = 0; f < homes.length; f++) {
            Due.is(call + " at family " + f, x.trimAt(a, b, f), homes[f]);
            Due.is("its trouble", x.trouble(), 0);
        }
    }

    private static void fewestMove() {
        TurtleBack x = turtle("scute m at 5,5 holds 90;scute l at 4,5 holds 90;scute r at 6,5 holds 90"
                + ";house h on r weighs 9 ties 1 worth 1;family f on r weighs 6;family g on r weighs 3;family k on m weighs 9");
        Due.is("LIST", x.list(), 18);
        trimIs(x, 18, 0, 0, 2, 2, 0);
        trimIs(x, 17, 0, 1, 1, 2, 0);
        trimIs(x, 6, 0, 1, 1, 2, 0);
        trimIs(x, 5, 0, 2, 1, 1, 0);
        trimIs(x, 0, 0, 2, 1, 1, 0);
        Due.is("nobody moved", x.list(), 18);
    }

    private static void theLeastOffAndTheFirst() {
        TurtleBack x = turtle("scute a at 4,6 holds 90;scute b at 5,6 holds 90;scute c at 4,5 holds 90;scute d at 6,5 holds 90"
                + ";family f on d weighs 4;family g on d weighs 4");
        Due.is("LIST", x.list(), 8);
        trimIs(x, 4, 9999, 1, 2, 3);
        trimIs(x, 0, 4, 1, 2, 3);
        trimIs(x, 7, 7, 1, 2, 3);
        TurtleBack y = turtle("scute a at 5,7 holds 90;scute b at 5,6 holds 90;scute c at 4,8 holds 90;scute d at 7,5 holds 90"
                + ";family f on d weighs 4;family g on d weighs 4");
        trimIs(y, 8, 99, 1, 1, 3);
        trimIs(y, 4, 99, 1, 2, 3);
        trimIs(y, 0, 99, 2, 1, 1);
        trimIs(y, 99, 99, 0, 3, 3);
        Due.is("trim(3, 7)", y.trim(3, 7), -2);
        TurtleBack alike = turtle("scute r at 7,5 holds 90;scute m at 5,5 holds 90;scute n at 5,5 holds 90"
                + ";family f on r weighs 4;family g on r weighs 4");
        trimIs(alike, 8, 0, 1, 0, 1);
        trimIs(alike, 7, 0, 2, 1, 1);
    }

    private static void pitchCounts() {
        TurtleBack x = turtle("scute a at 5,7 holds 90;scute b at 5,4 holds 90;family f on a weighs 5;family g on b weighs 3");
        Due.is("PITCH", x.pitch(), 7);
        trimIs(x, 0, 7, 0, 0, 1);
        trimIs(x, 0, 6, 2, 1, 0);
        trimIs(x, 0, 1, 2, 1, 0);
        Due.is("trim(0, 0)", x.trim(0, 0), -2);
        Due.is("trouble of what can't be", x.trouble(), 0);
        Due.refused(x, "trimAt(0, 0, 0)", x.trimAt(0, 0, 0), -1, 6);
    }

    private static void loadsCountWhereTheyMoveTo() {
        String scutes = "scute m at 5,5 holds 5;scute r at 6,5 holds 5;";
        TurtleBack full = turtle(scutes + "house h on m weighs 1 ties 1 worth 1;family f on r weighs 5");
        Due.is("m would hold 6", full.trim(0, 0), -2);
        TurtleBack fits = turtle(scutes + "family f on r weighs 5");
        trimIs(fits, 0, 0, 1, 0);
        TurtleBack leaves = turtle(scutes + "house h on r weighs 9 ties 1 worth 1;family f on r weighs 5");
        Due.is("LIST", leaves.list(), 14);
        trimIs(leaves, 9, 0, 1, 0);
        TurtleBack both = turtle("scute m at 5,5 holds 5;scute r at 7,5 holds 8;family f on m weighs 5;family g on r weighs 4");
        trimIs(both, 8, 0, 0, 0, 1);
        Due.is("who stays there counts too", both.trim(7, 0), -2);
        TurtleBack change = turtle("scute m at 5,5 holds 5;scute r at 7,5 holds 8;family f on r weighs 5;family g on m weighs 4");
        trimIs(change, 8, 0, 2, 0, 1);
        TurtleBack over = turtle("scute m at 5,5 holds 9;scute r at 7,5 holds 1;house h on r weighs 9 ties 1 worth 1"
                + ";family f on m weighs 9");
        trimIs(over, 18, 0, 0, 0);
    }

    private static void nobodyMovesToWhatIsGone() {
        TurtleBack x = turtle("scute m at 5,5 holds 90;scute n at 5,6 holds 90;scute r at 8,5 holds 90"
                + ";family f on r weighs 5;family g on m weighs 1;moult m day 1");
        trimIs(x, 0, 0, 1, 0, 0);
        x.days(1);
        Due.is("m is gone", x.trim(0, 0), -2);
        Due.is("n isn't", x.trim(0, 5), 1);
        Due.is("f", x.trimAt(0, 5, 0), 1);
        Due.refused(x, "g isn't there", x.trimAt(0, 5, 1), -1, 1);
        TurtleBack later = turtle("scute m at 5,5 holds 90;scute k at 9,9 holds 90;scute n at 5,6 holds 90;scute r at 8,5 holds 90"
                + ";family f on r weighs 5;family g on m weighs 1;moult m day 1");
        later.days(1);
        trimIs(later, 0, 5, 1, 2);
        TurtleBack two = turtle("scute m at 5,5 holds 90;scute n at 5,6 holds 90;scute r at 8,5 holds 90"
                + ";family f on r weighs 5;family g on r weighs 5;moult m day 1");
        two.days(1);
        Due.is("m is gone for the second, too", two.trim(15, 0), -2);
        trimIs(two, 15, 5, 1, 1, 2);
    }

    private static void trimsThatAreRefused() {
        TurtleBack x = turtle("scute m at 5,5 holds 90;family f on m weighs 5");
        int[][] wrong = {{-1, 0}, {0, -1}, {10_000, 0}, {0, 10_000}};
        for (int[] w : wrong) {
            Due.refused(x, "trim(" + w[0] + ", " + w[1] + ")", x.trim(w[0], w[1]), -1, 2);
            Due.refused(x, "trimAt(" + w[0] + ", " + w[1] + ", 0)", x.trimAt(w[0], w[1], 0), -1, 2);
        }
        Due.refused(x, "none such ahead of a number", x.trimAt(-1, 0, 1), -1, 1);
        Due.refused(x, "trimAt(0, 0, -1)", x.trimAt(0, 0, -1), -1, 1);
        trimIs(x, 9999, 9999, 0, 0);
        trimIs(x, 0, 0, 0, 0);
    }

    private static void helms() {
        String scutes = "scute m at 5,5 holds 90;scute l at 4,5 holds 90;scute r at 6,5 holds 90;";
        Due.is("nobody there", turtle(scutes + "field on m itch 1").helm(), 2);
        Due.is("9 either way", turtle(scutes + "family f on m weighs 9").helm(), 2);
        TurtleBack x = turtle(scutes + "family f on m weighs 10");
        Due.is("10 either way", x.helm(), 7);
        Due.is("trouble", x.trouble(), 0);
        Due.is("a house to the right", turtle(scutes + "house h on r weighs 10 ties 1 worth 1").helm(), 4);
        Due.is("a house to the left", turtle(scutes + "house h on l weighs 10 ties 1 worth 1").helm(), 1);
        Due.is("19 to the right, 9 off", turtle(scutes + "house h on r weighs 19 ties 1 worth 1;family f on m weighs 9")
                .helm(), 4);
        Due.is("18 to the right, 9 off", turtle(scutes + "house h on r weighs 18 ties 1 worth 1;family f on m weighs 9")
                .helm(), 6);
        Due.is("no room", turtle("scute m at 5,5 holds 9;scute l at 4,5 holds 9;scute r at 6,5 holds 10"
                + ";family f on m weighs 10").helm(), 6);
        TurtleBack gone = turtle(scutes + "family f on m weighs 10;moult l day 1");
        gone.days(1);
        Due.is("l is gone", gone.helm(), 6);
    }

    private static void courseIs(TurtleBack x, int first, int second, int... turns) {
        String call = "steer(" + first + ", " + second + ")";
        Due.is(call, x.steer(first, second), turns.length);
        Due.is(call + ", its trouble", x.trouble(), 0);
        for (int i = 0; i < turns.length; i++) {
            Due.is(call + ", turn " + i, x.turn(first, second, i), turns[i]);
            Due.is("its trouble", x.trouble(), 0);
        }
        Due.refused(x, "one turn more", x.turn(first, second, turns.length), -1, 6);
        Due.refused(x, "turn -1", x.turn(first, second, -1), -1, 6);
    }

    private static void courses() {
        TurtleBack x = turtle("scute m at 5,5 holds 90;scute l at 4,5 holds 90;scute r at 6,5 holds 90;family f on m weighs 10");
        courseIs(x, 5, 5);
        courseIs(x, 4, 4, 0);
        courseIs(x, 5, 4, 1);
        courseIs(x, 6, 4, 2);
        courseIs(x, 5, 3, 1, 1);
        courseIs(x, 3, 4, 0, 0);
        courseIs(x, 7, 4, 2, 2);
        courseIs(x, 5, 1, 0, 2, 1, 2);
    }

    private static void coursesOfAHelm() {
        TurtleBack straight = turtle("scute m at 5,5 holds 90");
        courseIs(straight, 5, 0, 1, 1, 1, 1, 1);
        courseIs(straight, 5, 6, 1, 1, 1, 1, 1, 1, 1, 1, 1, 1, 1, 1);
        Due.is("never", straight.steer(6, 5), -2);
        Due.is("trouble of what can't be", straight.trouble(), 0);
        Due.refused(straight, "turn", straight.turn(6, 5, 0), -1, 6);
        TurtleBack right = turtle("scute r at 6,5 holds 90;house h on r weighs 10 ties 1 worth 1");
        courseIs(right, 6, 4, 2);
        courseIs(right, 7, 4, 2, 2);
        courseIs(right, 5, 5);
        Due.is("on a round", right.steer(5, 4), -2);
        TurtleBack left = turtle("scute l at 4,5 holds 90;house h on l weighs 10 ties 1 worth 1");
        courseIs(left, 3, 4, 0, 0);
    }

    private static void fortyDaysAtMost() {
        String rest = "scute r at 6,5 holds 90;house h on r weighs 10 ties 1 worth 1";
        TurtleBack x = Due.turtle("keel 5 mid 5 feels 10 dives 30 calm 0 hungry 30", "at 9,9 heads 4", rest);
        Due.is("40 days to the right", x.steer(1, 7), 40);
        for (int i = 0; i < 40; i++) Due.is("turn " + i, x.turn(1, 7, i), 2);
        Due.refused(x, "turn 40", x.turn(1, 7, 40), -1, 6);
        TurtleBack y = Due.turtle("keel 5 mid 5 feels 10 dives 30 calm 0 hungry 30", "at 9,9 heads 7", rest);
        Due.is("41 days to the right", y.steer(2, 3), -2);
        Due.is("trouble of what can't be", y.trouble(), 0);
        Due.refused(y, "turn 0", y.turn(2, 3, 0), -1, 6);
        TurtleBack corner = Due.turtle("keel 5 mid 5 feels 10 dives 30 calm 0 hungry 30", "at 0,1 heads 0",
                "scute m at 5,5 holds 90");
        courseIs(corner, 0, 0, 1);
        courseIs(corner, 0, 2, 1, 1, 1, 1);
    }

    private static void coursesThatAreRefused() {
        TurtleBack x = turtle("scute m at 5,5 holds 90");
        int[][] none = {{-1, 0}, {0, -1}, {10, 0}, {0, 10}};
        for (int[] n : none) {
            Due.refused(x, "steer(" + n[0] + ", " + n[1] + ")", x.steer(n[0], n[1]), -1, 2);
            Due.refused(x, "turn(" + n[0] + ", " + n[1] + ", 0)", x.turn(n[0], n[1], 0), -1, 2);
        }
    }

    /** Hunger and what moults are aside. */
    private static void whatACourseLeavesAside() {
        TurtleBack x = Due.turtle("keel 5 mid 5 feels 10 dives 30 calm 0 hungry 1", "at 5,5 heads 0",
                "scute m at 5,5 holds 90;scute r at 6,5 holds 90;house h on r weighs 10 ties 1 worth 1;weed at 0,5;moult r day 1");
        courseIs(x, 7, 4, 2, 2);
    }

    public static void main(String[] args) {
        fewestMove();
        theLeastOffAndTheFirst();
        pitchCounts();
        loadsCountWhereTheyMoveTo();
        nobodyMovesToWhatIsGone();
        trimsThatAreRefused();
        helms();
        courses();
        coursesOfAHelm();
        fortyDaysAtMost();
        coursesThatAreRefused();
        whatACourseLeavesAside();
        Due.end();
    }
}
