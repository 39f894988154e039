import java.util.NoSuchElementException;

/** Terms III, promises 23 to 41: each sentence that names a boundary case, by its own words. */
public final class PlanEdgesTest {
    private static final String SCUTES = "scute m at 5,5 holds 40;scute l at 4,5 holds 40;scute r at 6,5 holds 40";
    private static final int[] ACROSS = {0, 1, 1, 1, 0, -1, -1, -1};
    private static final int[] DOWN = {-1, -1, 0, 1, 1, 1, 0, -1};

    private static TurtleBack turtle(String law, String begins, String lines) {
        return Due.turtle("keel 5 mid 5 " + law, "at " + begins, lines);
    }

    /** Feels 10, by whims, in the middle of the sea. */
    private static TurtleBack plain(String lines) {
        return turtle("feels 10 dives 30 calm 99 hungry 30", "5,5 heads 0", lines);
    }

    private static void refusedBy6(String what, TurtleBack x, int answer) {
        Due.is(what, answer, -1);
        Due.is(what + ", its trouble", x.trouble(), 6);
    }

    private static void trimIs(TurtleBack x, int a, int b, int many, int... homes) {
        String call = "trim(" + a + ", " + b + ")";
        Due.is(call, x.trim(a, b), many);
        Due.is(call + ", its trouble", x.trouble(), 0);
        for (int f = 0; f < homes.length; f++) Due.is(call + ", family " + f, x.trimAt(a, b, f), homes[f]);
        if (many == -2) refusedBy6("trimAt by " + call, x, x.trimAt(a, b, 0));
    }

    // ---- trim, helm

    private static void aAndBAtMost() {
        Due.by("the fewest families THERE that move so that LIST is a at most and PITCH b at most, each off 0 either way");
        String high = ";scute h at 5,2 holds 40;scute d at 5,8 holds 40";
        for (String side : new String[] {"l", "r"}) {
            TurtleBack x = plain(SCUTES + ";family f on " + side + " weighs 10");
            trimIs(x, 10, 0, 0, side.equals("l") ? 1 : 2);
            trimIs(x, 9, 0, 1, 0);
            trimIs(x, 9999, 9999, 0, side.equals("l") ? 1 : 2);
            trimIs(x, 0, 9999, 1, 0);
            trimIs(x, 0, 0, 1, 0);
        }
        for (String side : new String[] {"h", "d"}) {
            TurtleBack x = plain(SCUTES + high + ";family f on " + side + " weighs 10");
            trimIs(x, 0, 30, 0, side.equals("h") ? 3 : 4);
            trimIs(x, 0, 29, 1, 0);
        }
        TurtleBack nobody = plain(SCUTES + ";house h on r weighs 10 ties 1 worth 1");
        Due.is("nobody can: trim(10, 0)", nobody.trim(10, 0), 0);
        Due.is("nobody can: trim(9, 0)", nobody.trim(9, 0), -2);
        TurtleBack four = plain("scute m at 5,5 holds 40;scute z at 9,9 holds 99;family f on z weighs 30;family g on z weighs 30"
                + ";family p on z weighs 30;family q on z weighs 30");
        Due.is("LIST", four.list(), 480);
        trimIs(four, 480, 480, 0, 1, 1, 1, 1);
        trimIs(four, 479, 480, 1, 0, 1, 1, 1);
        trimIs(four, 480, 359, -2);
        TurtleBack all = plain("scute m at 5,5 holds 99;scute z at 6,5 holds 99;family f on z weighs 9;family g on z weighs 9"
                + ";family p on z weighs 9;family q on z weighs 9");
        trimIs(all, 0, 0, 4, 0, 0, 0, 0);
        trimIs(all, 9, 0, 3, 0, 0, 0, 1);
    }

    private static void noMoreThanItHolds() {
        Due.by("and LOAD of each SCUTE they move to is no more than it holds, with all who moved");
        for (int holds = 19; holds <= 20; holds++) {
            TurtleBack x = plain("scute m at 5,5 holds " + holds + ";scute r at 9,5 holds 40;house h on m weighs 5 ties 1 worth 1"
                    + ";family f on r weighs 8;family g on r weighs 7");
            if (holds == 20) trimIs(x, 0, 0, 2, 0, 0);
            else trimIs(x, 0, 0, -2);
            trimIs(x, 28, 0, 1, 0, 1);
        }
        TurtleBack change = plain("scute m at 5,5 holds 7;scute r at 6,5 holds 9;family f on m weighs 5;family g on r weighs 7");
        trimIs(change, 5, 0, 2, 1, 0);
        TurtleBack full = plain("scute m at 5,5 holds 4;scute r at 6,5 holds 1;family f on r weighs 5;family g on r weighs 4");
        trimIs(full, 5, 0, 1, 1, 0);
        trimIs(full, 4, 0, -2);
    }

    private static void ofLikeOnes() {
        Due.by("of like ones the least off 0, both together; of these the first by SCUTES of families, by LINES");
        TurtleBack x = plain("scute a at 7,5 holds 40;scute b at 6,6 holds 40;scute c at 5,6 holds 40;scute d at 5,4 holds 40"
                + ";scute e at 9,9 holds 40;family f on e weighs 5");
        trimIs(x, 19, 10, 1, 2);
        trimIs(x, 19, 0, 1, 0);
        trimIs(x, 5, 5, 1, 2);
        TurtleBack two = plain("scute a at 5,6 holds 40;scute b at 5,6 holds 40;scute e at 5,9 holds 40;family f on e weighs 5"
                + ";family g on e weighs 5");
        trimIs(two, 0, 39, 1, 0, 2);
        trimIs(two, 0, 24, 2, 0, 0);
        TurtleBack second = plain("scute e at 5,9 holds 40;scute a at 5,6 holds 40;family f on e weighs 5;family g on e weighs 5");
        trimIs(second, 0, 39, 1, 0, 1);
        Due.by("(Nobody moves to a GONE one.)");
        TurtleBack gone = plain("scute a at 5,5 holds 40;scute b at 5,6 holds 40;scute e at 5,9 holds 40;family f on e weighs 5"
                + ";family g on a weighs 1;moult a day 1");
        trimIs(gone, 0, 19, 1, 0);
        gone.days(1);
        trimIs(gone, 0, 19, 1, 1);
        trimIs(gone, 0, 5, 1, 1);
        trimIs(gone, 0, 4, -2);
        Due.is("trimAt of one who isn't THERE", gone.trimAt(0, 5, 1), -1);
        Due.is("its trouble", gone.trouble(), 1);
    }

    private static void helmByFeels() {
        Due.by("HELM: 1 if LIST can be feels or more below 0, 2 if between, 4 if feels or more, each if some families move likewise");
        int[] helms = {2, 7, 7};
        for (int i = 0; i < 3; i++) {
            TurtleBack x = plain(SCUTES + ";family f on m weighs " + (9 + i));
            Due.is("LIST up to " + (9 + i) + " of 10", x.helm(), helms[i]);
        }
        String[] lines = {"house h on r weighs 10 ties 1 worth 1", "house h on r weighs 9 ties 1 worth 1",
            "house h on l weighs 10 ties 1 worth 1", "house h on l weighs 9 ties 1 worth 1"};
        int[] alone = {4, 2, 1, 2};
        int[] withOne = {6, 6, 3, 3};
        for (int i = 0; i < 4; i++) {
            Due.is(lines[i], plain(SCUTES + ";" + lines[i]).helm(), alone[i]);
            Due.is(lines[i] + " and 1", plain(SCUTES + ";" + lines[i] + ";family f on m weighs 1").helm(), withOne[i]);
        }
        TurtleBack one = turtle("feels 1 dives 30 calm 99 hungry 30", "5,5 heads 0", SCUTES + ";family f on l weighs 1");
        Due.is("feels 1", one.helm(), 7);
        TurtleBack both = turtle("feels 1 dives 30 calm 99 hungry 30", "5,5 heads 0",
                "scute l at 4,5 holds 40;scute r at 6,5 holds 40;family f on l weighs 1");
        Due.is("never between", both.helm(), 5);
        String line = "scute r at 6,5 holds 40;scute m at 5,5 holds 40;scute l at 4,5 holds 40;family f on m weighs 10";
        Due.is("the left behind both others", plain(line).helm(), 7);
        Due.is("the left ahead of both others", plain(SCUTES.replace(" 5,5", " 3,5") + ";family f on m weighs 10").helm(), 5);
        for (int holds = 9; holds <= 10; holds++) {
            Due.is("r holds " + holds, plain("scute m at 5,5 holds 40;scute r at 6,5 holds " + holds
                    + ";family f on m weighs 10").helm(), holds == 10 ? 6 : 2);
        }
    }

    // ---- steer

    /** The CELLS of a turtle that can turn to the right alone, each behind its first DAY, up to 99 DAYS. */
    private static int[] roundToTheRight(int x, int y, int heading) {
        int[] first = new int[100];
        java.util.Arrays.fill(first, 999);
        for (int t = 0; t < 100; t++) {
            first[y * 10 + x] = Math.min(first[y * 10 + x], t);
            heading = (heading + 1) % 8;
            int toX = x + ACROSS[heading];
            int toY = y + DOWN[heading];
            if (toX < 0 || toX > 9 || toY < 0 || toY > 9) {
                heading = (heading + 4) % 8;
                continue;
            }
            x = toX;
            y = toY;
        }
        return first;
    }

    private static void fortyDaysAtMost() {
        Due.by("STEER to a CELL: the fewest DAYS (40 at most) behind which it is there");
        int[] met = new int[100];
        for (int heading : new int[] {4, 7}) {
            TurtleBack x = turtle("feels 10 dives 30 calm 99 hungry 30", "9,9 heads " + heading,
                    "scute r at 6,5 holds 40;house h on r weighs 10 ties 1 worth 1");
            int[] first = roundToTheRight(9, 9, heading);
            for (int cell = 0; cell < 100; cell++) {
                boolean can = first[cell] <= 40;
                Due.is("steer " + cell, x.steer(cell % 10, cell / 10), can ? first[cell] : -2);
                Due.is("its trouble", x.trouble(), 0);
                int last = Math.min(first[cell], 40) - 1;
                if (can && last >= 0) Due.is("its last turn " + cell, x.turn(cell % 10, cell / 10, last), 2);
                refusedBy6("a turn more", x, x.turn(cell % 10, cell / 10, last + 1));
                if (first[cell] < 100) met[first[cell]]++;
            }
        }
        Due.is("one is 40 DAYS off", met[40] > 0, true);
        Due.is("one is 41 DAYS off", met[41] > 0, true);
    }

    private static void aCourseOfNoDay() {
        Due.by("The turn of the i-th DAY by that: 0 left, 1 none, 2 right. NONE: 1; 2; 6 (it can't be, or i isn't one of its DAYS)");
        TurtleBack x = plain(SCUTES + ";family f on m weighs 10");
        Due.is("steer(5, 5), where it is", x.steer(5, 5), 0);
        refusedBy6("turn(5, 5, 0)", x, x.turn(5, 5, 0));
        int[][] goals = {{4, 4, 0}, {5, 4, 1}, {6, 4, 2}};
        for (int[] g : goals) {
            Due.is("one DAY off", x.steer(g[0], g[1]), 1);
            Due.is("its turn", x.turn(g[0], g[1], 0), g[2]);
            refusedBy6("DAY 1", x, x.turn(g[0], g[1], 1));
            refusedBy6("DAY -1", x, x.turn(g[0], g[1], -1));
        }
        Due.by("by the first such turns, DAY by DAY, left ahead of none ahead of right");
        int[][] ways = {{5, 1, 4, 0, 2, 1, 2}, {5, 3, 2, 1, 1}, {3, 3, 2, 0, 1}, {7, 3, 2, 2, 1}, {4, 3, 2, 0, 2}};
        for (int[] w : ways) {
            Due.is("steer(" + w[0] + ", " + w[1] + ")", x.steer(w[0], w[1]), w[2]);
            for (int i = 0; i < w[2]; i++) Due.is("turn(" + w[0] + ", " + w[1] + ", " + i + ")", x.turn(w[0], w[1], i), w[3 + i]);
        }
        Due.is("no DAY passed", x.size(7), 0);
        for (int corner = 0; corner < 4; corner++) {
            int cx = 9 * (corner & 1);
            int cy = 9 * (corner >> 1);
            Due.is("a corner is CELL, too", x.steer(cx, cy) > 0, true);
        }
        Due.by("hunger and what moults aside");
        TurtleBack aside = turtle("feels 10 dives 30 calm 99 hungry 1", "5,5 heads 0",
                SCUTES + ";house h on r weighs 10 ties 1 worth 1;weed at 0,5;moult r day 1");
        Due.is("by HELM alone", aside.steer(7, 4), 2);
        Due.is("to the right", aside.turn(7, 4, 1), 2);
    }

    // ---- charts

    private static void twelveDaysAtMost() {
        Due.by("CHART of n DAYS (12 at most): of 3 to the n WAYS those behind which it is at a CELL");
        TurtleBack x = plain(SCUTES);
        for (int n : new int[] {0, 1, 12}) {
            long all = 0;
            int cells = 0;
            for (int cell = 0; cell < 100; cell++) {
                long ways = x.ways(n, cell % 10, cell / 10);
                all += ways;
                if (ways > 0) cells++;
            }
            Due.is("all WAYS of " + n + " DAYS", all, n == 0 ? 1 : n == 1 ? 3 : 531_441);
            Due.is("may(" + n + ")", x.may(n), cells);
        }
        Due.is("ways(0, 5, 5)", x.ways(0, 5, 5), 1);
        Due.is("ways(0, 5, 4)", x.ways(0, 5, 4), 0);
        Due.is("its trouble", x.trouble(), 0);
        for (int what = 0; what < 4; what++) {
            Due.is("span(0, " + what + ")", x.span(0, what), 5);
            Due.is("span(12, " + what + ")", x.span(12, what), what % 2 == 0 ? 0 : 9);
        }
        for (int n : new int[] {-1, 13}) {
            Due.refused(x, "ways(" + n + ", 5, 5)", x.ways(n, 5, 5), -1, 2);
            Due.refused(x, "may(" + n + ")", x.may(n), -1, 2);
            Due.refused(x, "span(" + n + ", 0)", x.span(n, 0), -1, 2);
        }
        Due.refused(x, "span(0, 4)", x.span(0, 4), -1, 1);
        Due.refused(x, "span(0, -1)", x.span(0, -1), -1, 1);
    }

    private static void threeAlike() {
        Due.by("a DAY with a WHIM has three, another one three alike; HUNGER and weed as in II");
        TurtleBack list = plain(SCUTES + ";house h on r weighs 10 ties 1 worth 1");
        Due.is("12 DAYS by LIST: round, and four more", list.ways(12, 8, 5) + list.ways(12, 8, 6), 531_441);
        Due.is("may(12)", list.may(12), 1);
        TurtleBack calm = turtle("feels 10 dives 30 calm 0 hungry 30", "5,5 heads 2", SCUTES);
        Due.is("4 DAYS as it was", calm.ways(4, 9, 5), 81);
        Due.is("5 DAYS, at the edge", calm.ways(5, 9, 5), 243);
        Due.is("12 DAYS", calm.ways(12, 2, 5), 531_441);
        TurtleBack hungry = turtle("feels 10 dives 30 calm 99 hungry 12", "5,5 heads 0", SCUTES + ";weed at 0,0");
        Due.is("hungry 12, 1 CELL", hungry.may(1), 3);
        TurtleBack first = turtle("feels 10 dives 30 calm 99 hungry 1", "5,5 heads 0", SCUTES + ";weed at 0,0");
        Due.is("hungry 1: straight there", first.ways(5, 0, 0), 243);
        Due.is("and at it, back off the edge", first.ways(6, 0, 0), 729);
        Due.is("hungry 1: all alike", first.may(12), 1);
        TurtleBack second = turtle("feels 10 dives 30 calm 99 hungry 2", "5,5 heads 0", SCUTES + ";weed at 5,3");
        Due.is("DAY 1 by a WHIM", second.may(1), 3);
        Due.is("DAY 2 to weed", second.ways(2, 5, 3), 9);
        Due.is("DAY 3 by a WHIM again", second.may(3) > 1, true);
        second.days(1);
        Due.is("HUNGER of now counts", second.may(1), 1);
    }

    private static void sightings() {
        Due.by("SEEN: up to 6: it was at a CELL in a DAY (0 .. 20)");
        TurtleBack x = plain(SCUTES);
        int[][] wrong = {{-1, 0, 0}, {21, 0, 0}, {0, -1, 0}, {0, 10, 0}, {0, 0, -1}, {0, 0, 10}};
        for (int[] w : wrong) Due.refused(x, "seen", x.seen(w[0], w[1], w[2]), -1, 2);
        Due.is("DAY 0", x.seen(0, 0, 0), 1);
        Due.is("DAY 20", x.seen(20, 9, 9), 2);
        for (int i = 3; i <= 6; i++) Due.is("once more", x.seen(20, 9, 9), i);
        Due.refused(x, "a seventh", x.seen(20, 9, 9), -1, 3);
        for (int[] w : wrong) Due.refused(x, "a number, and no room", x.seen(w[0], w[1], w[2]), -1, 2);
        Due.is("SEEN", x.size(10), 6);
        Due.is("was(0, 0)", x.was(0, 0), 0);
        Due.is("was(0, 1)", x.was(0, 1), 0);
        Due.is("was(20, 2)", x.was(20, 2), 9);
        Due.is("was(19, 0)", x.was(19, 0), 8);
        Due.is("was(19, 1)", x.was(19, 1), 9);
        Due.refused(x, "was(21, 0)", x.was(21, 0), -1, 2);
        Due.is("a new BEAST", Due.tell(x, Due.PLAIN), 3);
        Due.is("nothing SEEN", x.size(10), 0);
        Due.is("room again", x.seen(0, 1, 1), 1);
    }

    /** What an earlier BEAST was SEEN to do has no part in what comes then. */
    private static void nothingSeenOfAnEarlierOne() {
        Due.by("(DAY 0, SEED 0, nothing SEEN, no images)");
        TurtleBack x = plain(SCUTES);
        for (int i = 0; i < 6; i++) x.seen(20 - i, 9, 9);
        Due.tell(x, Due.PLAIN);
        Due.is("nothing SEEN: all CELLS, all HEADINGS", x.fits(), 800);
        refusedBy6("was(0, 0)", x, x.was(0, 0));
        Due.is("SEEN", x.seen(3, 1, 1), 1);
        Due.is("was(3, 0)", x.was(3, 0), 1);
        Due.is("was(0, 1)", x.was(0, 1), 4);
        for (int day = 4; day <= 20; day++) refusedBy6("was(" + day + ", 0)", x, x.was(day, 0));
        Due.is("SEEN", x.seen(2, 1, 1), 2);
        for (int day = 4; day <= 20; day++) refusedBy6("was(" + day + ", 0)", x, x.was(day, 0));
    }

    private static void whatFits() {
        Due.by("from which, each DAY one to the left, none, or one to the right, it SWIMS through all that was SEEN");
        TurtleBack x = plain(SCUTES);
        Due.is("nothing SEEN: all CELLS, all HEADINGS", x.fits(), 800);
        x.seen(0, 9, 0);
        Due.is("each HEADING", x.fits(), 8);
        x.seen(1, 9, 0);
        Due.is("off the sea by 7, 0, 1, 2, 3: but 5 left", x.fits(), 7);
        x.seen(2, 8, 0);
        Due.is("then to the left by 6, behind 5, 6, 7 that were turned round: by 1, 2, 3", x.fits(), 5);
        x.seen(2, 8, 1);
        Due.is("two CELLS in one DAY", x.fits(), 0);
        refusedBy6("was(0, 0), nothing FITS", x, x.was(0, 0));
        TurtleBack far = plain(SCUTES);
        far.seen(0, 0, 5);
        far.seen(9, 9, 5);
        Due.is("9 DAYS for 9 CELLS", far.fits() > 0, true);
        far.seen(8, 7, 5);
        Due.is("2 CELLS in one DAY", far.fits(), 0);
        TurtleBack slow = plain(SCUTES);
        slow.seen(0, 0, 5);
        slow.seen(8, 9, 5);
        Due.is("8 DAYS for 9 CELLS", slow.fits(), 0);
    }

    private static void whereItWas() {
        Due.by("6 (nothing was SEEN, nothing FITS, or the DAY is behind the last that was SEEN)");
        TurtleBack x = plain(SCUTES);
        refusedBy6("nothing was SEEN", x, x.was(0, 0));
        x.seen(2, 5, 5);
        x.seen(1, 5, 6);
        Due.is("the last that was SEEN", x.was(2, 0), 5);
        Due.is("its trouble", x.trouble(), 0);
        refusedBy6("behind it", x, x.was(3, 0));
        refusedBy6("behind it", x, x.was(20, 0));
        Due.is("DAY 0, least", x.was(0, 0), 4);
        Due.is("DAY 0, greatest", x.was(0, 1), 6);
        Due.is("DAY 0, second, least", x.was(0, 2), 7);
        Due.is("DAY 0, second, greatest", x.was(0, 3), 7);
        Due.refused(x, "was(-1, 0)", x.was(-1, 0), -1, 2);
        Due.refused(x, "was(21, 0)", x.was(21, 0), -1, 2);
        Due.refused(x, "was(21, 4)", x.was(21, 4), -1, 1);
        Due.refused(x, "was(0, -1)", x.was(0, -1), -1, 1);
        x.seen(3, 5, 5);
        refusedBy6("nothing FITS", x, x.was(0, 0));
        TurtleBack first = plain(SCUTES);
        first.seen(0, 9, 9);
        for (int what = 0; what < 4; what++) Due.is("DAY 0 alone", first.was(0, what), 9);
        refusedBy6("DAY 1", first, first.was(1, 0));
    }

    // ---- tying down

    private static void saveIs(TurtleBack x, int minutes, int worth, int houses) {
        Due.is("save(" + minutes + ")", x.save(minutes), worth);
        Due.is("saved(" + minutes + ")", x.saved(minutes), houses);
        Due.is("its trouble", x.trouble(), 0);
    }

    private static void minutesTogether() {
        Due.by("SAVE in so many minutes: the most worth of houses THERE that are TIED or are tied in no more minutes together");
        StringBuilder six = new StringBuilder(SCUTES);
        for (char c = 'a'; c <= 'f'; c++) six.append(";house ").append(c).append(" on m weighs 1 ties 60 worth ").append(94 + c - 'a');
        TurtleBack x = plain(six.toString());
        saveIs(x, 0, 0, 0);
        saveIs(x, 59, 0, 0);
        saveIs(x, 60, 99, 32);
        saveIs(x, 119, 99, 32);
        saveIs(x, 120, 99 + 98, 48);
        saveIs(x, 359, 99 + 98 + 97 + 96 + 95, 62);
        saveIs(x, 360, 99 + 98 + 97 + 96 + 95 + 94, 63);
        for (int minutes : new int[] {-1, 361}) {
            Due.refused(x, "save(" + minutes + ")", x.save(minutes), -1, 2);
            Due.refused(x, "saved(" + minutes + ")", x.saved(minutes), -1, 2);
        }
        x.tie(0, true);
        saveIs(x, 0, 94, 1);
        saveIs(x, 299, 94 + 99 + 98 + 97 + 96, 61);
        saveIs(x, 300, 579, 63);
        for (int h = 1; h < 6; h++) x.tie(h, true);
        saveIs(x, 0, 579, 63);
        TurtleBack lost = plain(SCUTES + ";house a on l weighs 1 ties 1 worth 99;house b on m weighs 1 ties 1 worth 1;moult l day 1");
        lost.tie(0, true);
        saveIs(lost, 1, 100, 3);
        lost.days(1);
        saveIs(lost, 0, 0, 0);
        saveIs(lost, 360, 1, 2);
        saveIs(plain(SCUTES), 360, 0, 0);
        Due.by("of like ones the least bits of all of these");
        TurtleBack like = plain(SCUTES + ";house a on m weighs 1 ties 2 worth 5;house b on m weighs 1 ties 2 worth 5"
                + ";house c on m weighs 1 ties 2 worth 10;house d on m weighs 1 ties 2 worth 10");
        saveIs(like, 2, 10, 4);
        saveIs(like, 4, 20, 12);
        saveIs(like, 6, 25, 13);
        TurtleBack bits = plain(SCUTES + ";house a on m weighs 1 ties 2 worth 5;house b on m weighs 1 ties 2 worth 5"
                + ";house c on m weighs 1 ties 4 worth 10");
        saveIs(bits, 4, 10, 3);
        saveIs(bits, 3, 5, 1);
    }

    private static void mustIs(TurtleBack x, int must, int shelter) {
        Due.is("must()", x.must(), must);
        Due.is("its trouble", x.trouble(), 0);
        Due.is("shelter()", x.shelter(), shelter);
        Due.is("its trouble", x.trouble(), 0);
    }

    private static void fewestMinutes() {
        Due.by("MUST: the fewest minutes so that each family THERE is on a SCUTE with a TIED house THERE");
        mustIs(plain(SCUTES), 0, 0);
        mustIs(plain(SCUTES + ";family f on m weighs 1"), -2, -2);
        String house = ";house h on l weighs 1 ties 60 worth 1";
        mustIs(plain(SCUTES + house + ";family f on l weighs 1"), 60, 60);
        mustIs(plain(SCUTES + house + ";family f on l weighs 1;family g on r weighs 1"), -2, 60);
        TurtleBack tied = plain(SCUTES + house + ";family f on l weighs 1;house i on l weighs 1 ties 1 worth 1");
        mustIs(tied, 1, 1);
        tied.tie(0, true);
        mustIs(tied, 0, 0);
        StringBuilder four = new StringBuilder();
        for (int i = 0; i < 4; i++) {
            char c = (char) ('a' + i);
            four.append(i > 0 ? ";" : "").append("scute ").append(c).append(" at 5,5 holds 31;house h").append(c).append(" on ")
                    .append(c).append(" weighs 1 ties 60 worth 1;family f").append(c).append(" on ").append(c).append(" weighs 30");
        }
        mustIs(plain(four.toString()), 240, 240);
        mustIs(plain(four.toString().replace("holds 31", "holds 60")), 240, 240);
        mustIs(plain(four.toString().replace("holds 31", "holds 61")), 240, 120);
        Due.by("SHELTER: likewise if families move first (as in TRIM)");
        for (int holds = 10; holds <= 11; holds++) {
            String scutes = "scute a at 5,5 holds " + holds + ";scute b at 5,5 holds 40;house h on a weighs 1 ties 3 worth 1";
            mustIs(plain(scutes + ";family f on b weighs 10"), -2, holds == 11 ? 3 : -2);
            mustIs(plain(scutes + ";house i on b weighs 1 ties 4 worth 1;family f on b weighs 10"), 4, holds == 11 ? 3 : 4);
            mustIs(plain(scutes + ";family f on b weighs 5;family g on b weighs 5"), -2, holds == 11 ? 3 : -2);
        }
        TurtleBack away = plain(SCUTES + ";house h on l weighs 1 ties 9 worth 1;family f on l weighs 1;family g on r weighs 1"
                + ";house i on r weighs 1 ties 7 worth 1;young r day 1");
        mustIs(away, 16, 7);
        away.days(1);
        mustIs(away, 9, 9);
    }

    // ---- images, what is seen

    private static void fourImages() {
        Due.by("its number, from 0 on. NONE: 1 (no BEAST); 3 (4 are)");
        TurtleBack x = plain(SCUTES + ";house h on m weighs 1 ties 1 worth 1");
        Due.refused(x, "restore(0) of none", x.restore(0), 1);
        for (int i = 0; i < 4; i++) {
            Due.refused(x, "restore of the next", x.restore(i), 1);
            Due.is("image()", x.image(), i);
            Due.is("trouble", x.trouble(), 0);
            Due.is("images", x.size(11), i + 1);
            x.days(1);
        }
        Due.refused(x, "a fifth", x.image(), -1, 3);
        Due.is("images", x.size(11), 4);
        Due.by("All that is as by an image (images stay; no ACT can be taken back then): true; false: 1");
        for (int none : new int[] {-1, 4, Integer.MIN_VALUE, Integer.MAX_VALUE}) {
            x.tie(0, true);
            Due.refused(x, "restore(" + none + ")", x.restore(none), 1);
            Due.is("DAYS", x.size(7), 4);
            Due.is("the ACT can be taken back still", x.undo(), true);
        }
        for (int i = 3; i >= 0; i--) {
            x.tie(0, true);
            Due.is("restore(" + i + ")", x.restore(i), true);
            Due.is("trouble", x.trouble(), 0);
            Due.is("DAYS", x.size(7), i);
            Due.is("not TIED", x.house(0, 1), 0);
            Due.is("images stay", x.size(11), 4);
            Due.is("ACTS", x.size(12), 0);
            Due.is("undo()", x.undo(), false);
            Due.is("its trouble", x.trouble(), 6);
        }
        Due.refused(x, "no room still", x.image(), -1, 3);
        Due.by("(but ACTS that can be taken back, and what was SEEN)");
        x.seen(0, 1, 1);
        x.tie(0, true);
        Due.is("restore(0)", x.restore(0), true);
        Due.is("what was SEEN stays", x.size(10), 1);
        Due.by("(DAY 0, SEED 0, nothing SEEN, no images)");
        x.seed(9);
        x.days(1);
        x.tie(0, true);
        Due.tell(x, Due.PLAIN);
        for (int what = 7; what <= 12; what++) Due.is("size(" + what + ")", x.size(what), 0);
        Due.refused(x, "restore(0)", x.restore(0), 1);
        Due.is("image()", x.image(), 0);
    }

    private static void imageOfTheLastDay() {
        Due.by("All as it is");
        TurtleBack x = plain(SCUTES);
        for (int n : new int[] {60, 60, 60, 20}) x.days(n);
        for (int i = 0; i < 2; i++) x.image();
        String state = RefusalsTest.stateOf(x);
        int middle = x.log(100, 0) * 10 + x.log(100, 1);
        TurtleBack y = plain(SCUTES);
        y.image();
        for (int n : new int[] {60, 60, 60, 20}) y.days(n);
        y.image();
        y.restore(0);
        y.seed(5);
        y.days(60);
        y.restore(1);
        Due.is("DAY 200", RefusalsTest.stateOf(y).equals(state), true);
        Due.is("log of DAY 100", y.log(100, 0) * 10 + y.log(100, 1), middle);
        Due.refused(y, "days(1)", y.days(1), -1, 3);
    }

    private static boolean throwsIt(TurtleBack x, int i) {
        try {
            x.led(i);
            return false;
        } catch (NoSuchElementException e) {
            return true;
        }
    }

    private static void theLost() {
        Due.by("The i-th house that is LOST, by LINES. NoSuchElementException if there is none such");
        TurtleBack none = new TurtleBack();
        for (int i : new int[] {-1, 0, 1, Integer.MIN_VALUE, Integer.MAX_VALUE}) Due.is("no BEAST", throwsIt(none, i), true);
        StringBuilder six = new StringBuilder(SCUTES);
        for (int i = 0; i < 6; i++) six.append(";house h").append((char) ('a' + i)).append(" on m weighs 1 ties 1 worth 1");
        TurtleBack x = turtle("feels 10 dives 1 calm 99 hungry 30", "5,5 heads 0", six.toString());
        for (int i : new int[] {-1, 0, 1}) Due.is("none LOST", throwsIt(x, i), true);
        x.tie(1, true);
        x.tie(4, true);
        x.days(1);
        int[] lost = {0, 2, 3, 5};
        for (int i = 0; i < 4; i++) Due.is("led(" + i + ")", Due.led(x, i), lost[i]);
        for (int i : new int[] {-1, 4, 5, 6, Integer.MIN_VALUE, Integer.MAX_VALUE}) Due.is("led(" + i + ")", throwsIt(x, i), true);
        x.tie(1, false);
        x.tie(4, false);
        x.days(1);
        for (int i = 0; i < 6; i++) Due.is("led(" + i + ")", Due.led(x, i), i);
        for (int i : new int[] {-1, 6}) Due.is("led(" + i + ")", throwsIt(x, i), true);
    }

    private static void sizesOfOthers() {
        Due.by("NONE for others; 0 for what there isn't");
        TurtleBack x = new TurtleBack();
        for (int what = 0; what <= 12; what++) Due.is("size(" + what + ")", x.size(what), 0);
        for (int what : new int[] {-1, 13, Integer.MIN_VALUE, Integer.MAX_VALUE}) Due.is("size(" + what + ")", x.size(what), -1);
        TurtleBack y = plain("scute m at 5,5 holds 40");
        for (int what = 1; what <= 12; what++) Due.is("size(" + what + ")", y.size(what), 0);
        for (int what : new int[] {-1, 13, Integer.MIN_VALUE, Integer.MAX_VALUE}) Due.is("size(" + what + ")", y.size(what), -1);
    }

    private static void aCall512() {
        Due.by("An object is used for at most 512 calls after it has been made");
        TurtleBack x = new TurtleBack();
        for (int call = 1; call < 512; call++) x.feed(call, call, call, call, call);
        Due.is("call 512", x.size(9), 900);
        TurtleBack y = plain("scute m at 5,5 holds 40");
        for (int i = 0; i < 100; i++) {
            y.may(12);
            y.fits();
            y.steer(0, 0);
            y.trim(0, 0);
        }
        Due.is("call 420 or so", y.days(60), 60);
    }

    public static void main(String[] args) {
        aAndBAtMost();
        noMoreThanItHolds();
        ofLikeOnes();
        helmByFeels();
        fortyDaysAtMost();
        aCourseOfNoDay();
        twelveDaysAtMost();
        threeAlike();
        sightings();
        nothingSeenOfAnEarlierOne();
        whatFits();
        whereItWas();
        minutesTogether();
        fewestMinutes();
        fourImages();
        imageOfTheLastDay();
        theLost();
        sizesOfOthers();
        aCall512();
        Due.end();
    }
}
