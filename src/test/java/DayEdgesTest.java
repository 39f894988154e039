/** Terms II, promises 6 to 22: each sentence that names a boundary case, by its own words. */
public final class DayEdgesTest {
    /** A scute on the keel, one to the left, one to the right of it. */
    private static final String SCUTES = "scute m at 1,1 holds 40;scute l at 0,1 holds 40;scute r at 2,1 holds 40";
    private static final int[] ACROSS = {0, 1, 1, 1, 0, -1, -1, -1};
    private static final int[] DOWN = {-1, -1, 0, 1, 1, 1, 0, -1};

    private static String law(int feels, int dives, int calm, int hungry) {
        return "keel 1 mid 1 feels " + feels + " dives " + dives + " calm " + calm + " hungry " + hungry;
    }

    private static TurtleBack turtle(String law, String begins, String... lines) {
        return Due.turtle(law, "at " + begins, SCUTES + (lines.length > 0 ? ";" : "") + String.join(";", lines));
    }

    private static void at(String when, TurtleBack x, int first, int second, int heading) {
        Due.is(when + ", first", x.now(0), first);
        Due.is(when + ", second", x.now(1), second);
        Due.is(when + ", HEADING", x.now(2), heading);
    }

    // ---- what stands on it

    private static void loadListPitch() {
        Due.by("LOAD of a SCUTE: all weights of THINGS THERE on it");
        TurtleBack x = turtle(law(99, 2, 99, 30), "5,5 heads 0", "house h on r weighs 30 ties 1 worth 1",
                "house i on r weighs 10 ties 1 worth 1", "family f on r weighs 7", "family g on l weighs 30");
        Due.is("of three THINGS", x.scute(2, 1), 47);
        Due.is("of none", x.scute(0, 1), 0);
        Due.is("LIST", x.list(), 47 - 30);
        x.tie(1, true);
        x.days(2);
        Due.is("of what isn't LOST", x.scute(2, 1), 17);
        Due.is("of one that is LOST", x.scute(1, 1), 0);
        Due.by("LIST: of all THINGS THERE weights times (first WHOLE of their SCUTE less keel), together");
        Due.is("LIST", x.list(), 17);
        Due.is("PITCH", x.pitch(), 0);
        String[] far = {"scute z at 9,9 holds 1", "scute o at 0,0 holds 1"};
        for (int i = 0; i < 2; i++) {
            TurtleBack y = Due.turtle("keel " + (9 - 9 * i) + " mid " + 9 * i + " feels 99 dives 30 calm 0 hungry 30",
                    "at 5,5 heads 0", far[i == 0 ? 1 : 0] + ";" + far[i] + ";house a on " + (i == 0 ? "o" : "z")
                            + " weighs 30 ties 1 worth 1;family f on z weighs 30;family g on o weighs 30");
            Due.is("LIST", y.list(), i == 0 ? -540 : 540);
            Due.is("PITCH: second WHOLE less mid", y.pitch(), i == 0 ? 270 : -270);
        }
        TurtleBack none = turtle(law(99, 30, 0, 30), "5,5 heads 0");
        Due.is("LIST of none", none.list(), 0);
        Due.is("PITCH of none", none.pitch(), 0);
    }

    private static void theFirstTooFull() {
        Due.by("The first SCUTE whose LOAD is more than it holds; -2");
        for (int less = 0; less < 2; less++) {
            TurtleBack x = Due.turtle(law(99, 30, 0, 30), "at 5,5 heads 0", "scute a at 0,0 holds 30;scute b at 0,0 holds "
                    + (30 - less) + ";family f on a weighs 30;family g on b weighs 30");
            Due.is("LOAD 30, so much less: " + less, x.judge(), less == 0 ? -2 : 1);
            Due.is("trouble", x.trouble(), 0);
        }
        Due.is("of two the first", Due.turtle(law(99, 30, 0, 30), "at 5,5 heads 0", "scute a at 0,0 holds 1;scute b at 0,0 holds 1"
                + ";family f on b weighs 30;family g on a weighs 30").judge(), 0);
    }

    // ---- the sea

    private static void allCellsByAllHeadings() {
        Due.by("It SWIMS one CELL by HEADING; if that is none, it stays, and HEADING is 4 on");
        for (int spot = 0; spot < 800; spot++) {
            int x = spot / 8 % 10;
            int y = spot / 80;
            int h = spot % 8;
            TurtleBack t = Due.turtle(law(99, 30, 0, 30), "at " + x + "," + y + " heads " + h, "scute a at 1,1 holds 1");
            t.days(1);
            int toX = x + ACROSS[h];
            int toY = y + DOWN[h];
            boolean isCell = toX >= 0 && toX < 10 && toY >= 0 && toY < 10;
            if (isCell) at("from " + x + "," + y + " by " + h, t, toX, toY, h);
            else at("from " + x + "," + y + " by " + h, t, x, y, (h + 4) % 8);
            Due.is("its log", t.log(1, 0) * 10 + t.log(1, 1), t.now(0) * 10 + t.now(1));
        }
    }

    private static void turnsGoRound() {
        Due.by("HEADINGS: 0 up (second WHOLE one less), then by eighths to the right");
        for (int h = 0; h < 8; h++) {
            int left = (h + 7) % 8;
            int right = (h + 1) % 8;
            TurtleBack x = turtle(law(9, 30, 0, 30), "5,5 heads " + h, "family f on l weighs 9");
            x.days(1);
            at("to the left of " + h, x, 5 + ACROSS[left], 5 + DOWN[left], left);
            TurtleBack y = turtle(law(9, 30, 0, 30), "5,5 heads " + h, "family f on r weighs 9");
            y.days(1);
            at("to the right of " + h, y, 5 + ACROSS[right], 5 + DOWN[right], right);
        }
    }

    // ---- how it turns

    private static void hungryOrMore() {
        Due.by("if HUNGER is hungry or more and there is weed: to the nearest weed");
        TurtleBack first = turtle(law(99, 30, 0, 1), "5,5 heads 0", "weed at 9,5");
        first.days(1);
        at("hungry 1, on DAY 1", first, 6, 5, 2);
        TurtleBack second = turtle(law(99, 30, 0, 2), "5,5 heads 0", "weed at 9,4");
        second.days(1);
        at("hungry 2, on DAY 1", second, 5, 4, 0);
        Due.is("HUNGER is 1 more", second.now(3), 1);
        second.days(1);
        at("hungry 2, on DAY 2", second, 6, 4, 2);
        second.days(1);
        at("or more", second, 7, 4, 2);
        TurtleBack last = turtle(law(9, 30, 0, 30), "5,5 heads 0", "weed at 0,0", "house h on r weighs 9 ties 1 worth 1");
        last.days(29);
        at("hungry 30, on DAY 29 by LIST", last, 7, 7, 5);
        Due.is("HUNGER", last.now(3), 29);
        last.days(1);
        at("hungry 30, on DAY 30", last, 6, 6, 7);
        TurtleBack none = turtle(law(9, 30, 0, 1), "5,5 heads 0", "house h on r weighs 9 ties 1 worth 1");
        none.days(1);
        at("no weed: by LIST", none, 6, 4, 1);
        none.days(60);
        Due.is("HUNGER goes on", none.now(3), 61);
    }

    private static void theNearestWeed() {
        Due.by("(the greater one of how far both WHOLES are apart; the first such)");
        TurtleBack x = turtle(law(99, 30, 0, 1), "5,5 heads 0", "weed at 7,3", "weed at 3,7", "weed at 5,7", "weed at 3,5");
        x.days(1);
        at("four are 2 off: the first", x, 6, 4, 1);
        TurtleBack y = turtle(law(99, 30, 0, 1), "5,5 heads 0", "weed at 5,8", "weed at 3,7", "weed at 7,3", "weed at 8,5");
        y.days(1);
        at("two are 2 off, two 3: the first of the former", y, 4, 6, 5);
        TurtleBack last = turtle(law(99, 30, 0, 1), "9,9 heads 0", "weed at 0,9", "weed at 9,0", "weed at 0,0", "weed at 1,1");
        last.days(1);
        at("the last alone is 8 off", last, 8, 8, 7);
        Due.by("HEADING is that by the signs of both differences (at it: HEADING stays)");
        for (int h = 0; h < 8; h++) {
            TurtleBack s = turtle(law(99, 30, 0, 1), "5,5 heads 3", "weed at " + (5 + 2 * ACROSS[h]) + "," + (5 + 2 * DOWN[h]));
            s.days(1);
            Due.is("by the signs of " + h, s.now(2), h);
            TurtleBack stays = turtle(law(1, 30, 99, 1), "5,5 heads " + h, "weed at 5,5", "family f on r weighs 9");
            stays.days(1);
            at("at it, heading " + h, stays, 5 + ACROSS[h], 5 + DOWN[h], h);
            Due.is("no draw", stays.size(8), 0);
        }
        TurtleBack aslant = turtle(law(99, 30, 0, 1), "1,9 heads 0", "weed at 9,8");
        aslant.days(1);
        at("one up, eight to the right", aslant, 2, 8, 1);
    }

    private static void listFeelsOrMore() {
        Due.by("else if LIST is feels or more: 1 to the right, if it is feels or more below 0: 1 to the left");
        int[] weighs = {29, 30, 30, 30};
        int[] turns = {0, 0, 1, 1};
        int[] feels = {30, 31, 30, 29};
        for (int i = 0; i < 4; i++) {
            TurtleBack right = turtle(law(feels[i], 30, 0, 30), "5,5 heads 2", "family f on r weighs " + weighs[i]);
            right.days(1);
            Due.is("LIST " + weighs[i] + ", feels " + feels[i], right.now(2), 2 + turns[i]);
            TurtleBack left = turtle(law(feels[i], 30, 0, 30), "5,5 heads 2", "family f on l weighs " + weighs[i]);
            left.days(1);
            Due.is("LIST -" + weighs[i] + ", feels " + feels[i], left.now(2), 2 - turns[i]);
        }
        TurtleBack even = turtle(law(1, 30, 0, 30), "5,5 heads 2", "family f on l weighs 1", "family g on r weighs 1");
        even.days(1);
        Due.is("LIST 0, feels 1", even.now(2), 2);
        TurtleBack one = turtle(law(1, 30, 0, 30), "5,5 heads 2", "family f on l weighs 1");
        one.days(1);
        Due.is("LIST -1, feels 1", one.now(2), 1);
    }

    private static void calmOrMore() {
        Due.by("else if PLEASED (0 at first) is calm or more: as it was; else by a WHIM");
        TurtleBack zero = turtle(law(99, 30, 0, 30), "5,5 heads 2");
        Due.is("0 at first", zero.pleased(), 0);
        zero.days(1);
        Due.is("0 of calm 0: no draw", zero.size(8), 0);
        TurtleBack below = turtle(law(99, 30, 0, 30), "5,5 heads 2", "field on m itch 1");
        below.days(1);
        Due.is("0 ahead of DAY 1: no draw", below.size(8), 0);
        Due.is("-1", below.pleased(), -1);
        below.days(1);
        Due.is("-1 of calm 0: a draw", below.size(8), 74);
        TurtleBack rich = turtle(law(99, 30, 99, 30), "5,5 heads 2", "isle i at 6,5 from 1 to 1 buys 99");
        rich.seed(65_536);
        rich.days(1);
        Due.is("COINS", rich.now(4), 99);
        rich.seed(3);
        rich.pay(98);
        rich.image();
        rich.days(1);
        Due.is("98 of calm 99: a draw", rich.size(8), 299);
        rich.restore(0);
        rich.pay(1);
        rich.days(1);
        Due.is("99 of calm 99: no draw", rich.size(8), 3);
        at("as it was", rich, 7, 5, 2);
    }

    private static void drawsGoRound() {
        Due.by("a draw (SEED becomes (75 times SEED and 74) mod 65,537) mod 3: 0 one to the left, 1 none, 2 one to the right");
        int[] from = {0, 1, 2, 3, 872, 873, 874, 32_768, 65_535, 65_536};
        for (int seed : from) {
            TurtleBack x = turtle(law(99, 30, 99, 30), "5,5 heads 0");
            Due.is("seed(" + seed + ")", x.seed(seed), true);
            x.days(1);
            long due = (75L * seed + 74) % 65_537;
            Due.is("SEED behind " + seed, x.size(8), due);
            Due.is("HEADING behind " + seed, x.now(2), (7 + due % 3) % 8);
        }
        TurtleBack zero = turtle(law(99, 30, 99, 30), "5,5 heads 0");
        long before = 0;
        while ((75 * before + 74) % 65_537 != 0) before++;
        zero.seed((int) before);
        zero.days(1);
        Due.is("75 times " + before + " and 74 goes round to 0", zero.size(8), 0);
        at("0 one to the left", zero, 4, 4, 7);
    }

    // ---- what a day brings

    private static void atWeedHungerIs0() {
        Due.by("At weed HUNGER is 0");
        TurtleBack x = turtle(law(99, 30, 0, 30), "0,2 heads 0", "weed at 0,0");
        x.days(1);
        Due.is("one CELL off", x.now(3), 1);
        x.days(1);
        Due.is("at weed", x.now(3), 0);
        x.days(1);
        at("it stays in a corner", x, 0, 0, 4);
        Due.is("at weed still", x.now(3), 0);
        x.days(1);
        Due.is("one CELL off", x.now(3), 1);
    }

    private static void coinsOfFamiliesAndIsles() {
        Due.by("COINS: 1 more for each family THERE");
        TurtleBack x = turtle(law(99, 30, 0, 30), "5,9 heads 0", "family f on m weighs 1", "family g on l weighs 1",
                "family p on r weighs 1", "family q on r weighs 1", "moult r day 2", "young l day 3");
        int[] due = {4, 6, 7, 8};
        for (int t = 1; t <= 4; t++) {
            x.days(1);
            Due.is("COINS behind DAY " + t, x.now(4), due[t - 1]);
        }
        Due.by("at an isle in whose DAYS t is and that hasn't bought yet: what it buys");
        for (int t = 1; t <= 5; t++) {
            TurtleBack y = turtle(law(99, 30, 0, 30), "5," + (4 + t) + " heads 0", "isle i at 5,4 from 2 to 4 buys 99");
            y.days(5);
            boolean buys = t >= 2 && t <= 4;
            Due.is("at it on DAY " + t, y.now(4), buys ? 99 : 0);
            Due.is("as bits", y.now(6), buys ? 1 : 0);
        }
        TurtleBack one = turtle(law(99, 30, 0, 30), "5,5 heads 0", "isle i at 5,4 from 1 to 1 buys 1",
                "isle j at 5,4 from 2 to 2 buys 2", "isle k at 5,5 from 1 to 99 buys 50", "isle w at 5,4 from 1 to 99 buys 4");
        Due.is("where it begins, ahead of DAY 1", one.now(6), 0);
        one.days(1);
        Due.is("by two isles of one CELL", one.now(4), 5);
        Due.is("as bits", one.now(6), 9);
        TurtleBack stays = turtle(law(99, 30, 0, 30), "5,1 heads 0", "isle i at 5,0 from 1 to 99 buys 7");
        stays.days(2);
        Due.is("it stays there", stays.now(1), 0);
        Due.is("once", stays.now(4), 7);
    }

    private static void pleasedIsLess() {
        Due.by("PLEASED is less by itch of all fields on SCUTES that aren't GONE");
        TurtleBack x = turtle(law(99, 30, 0, 30), "5,5 heads 0", "field on l itch 9", "field on l itch 1", "field on r itch 5",
                "field on m itch 2", "moult l day 2", "young r day 3");
        int[] due = {-17, -24, -26};
        for (int t = 1; t <= 3; t++) {
            x.days(1);
            Due.is("PLEASED behind DAY " + t, x.pleased(), due[t - 1]);
        }
        Due.by("(-999 at least)");
        TurtleBack low = turtle(law(99, 30, 0, 30), "5,5 heads 0", "field on m itch 9", "field on m itch 9", "field on m itch 9",
                "field on m itch 9");
        int pleased = 0;
        boolean isLeast = false;
        for (int t = 1; t <= 33; t++) {
            low.days(1);
            int barnacles = t % 30 == 0 ? 30 : t % 30;
            pleased = Math.max(-999, pleased - 36 - (barnacles > 5 ? 3 : 0));
            isLeast |= pleased == -999;
            Due.is("PLEASED behind DAY " + t, low.pleased(), pleased);
        }
        Due.is("it came to that", isLeast, true);
        TurtleBack just = turtle(law(99, 30, 0, 30), "5,5 heads 0", "field on m itch 9", "field on m itch 9", "field on m itch 9");
        for (int t = 1; t <= 40; t++) just.days(1);
        Due.is("never below", just.pleased(), -999);
    }

    private static void barnaclesOf5OrMore() {
        Due.by("and by 1 for each such SCUTE with 5 BARNACLES or more");
        TurtleBack x = turtle(law(99, 30, 0, 30), "5,5 heads 0", "moult r day 7");
        int[] pleased = {0, 0, 0, 0, 0, -3, -5, -7, -9, -11, -13};
        int[] barnacles = {1, 2, 3, 4, 5, 6, 7, 8, 9, 9, 9};
        for (int t = 1; t <= 11; t++) {
            x.days(1);
            Due.is("PLEASED behind DAY " + t, x.pleased(), pleased[t - 1]);
            Due.is("BARNACLES behind DAY " + t, x.scute(0, 2), barnacles[t - 1]);
            Due.is("BARNACLES of one that is GONE", x.scute(2, 2), Math.min(t, 6));
        }
        Due.by("BARNACLES of each such SCUTE (0 at first) are 1 more (9 at most)");
        TurtleBack y = turtle(law(99, 30, 0, 30), "5,5 heads 0");
        Due.is("0 at first", y.scute(1, 2), 0);
        y.days(8);
        Due.is("8", y.scute(1, 2), 8);
        y.days(1);
        Due.is("9", y.scute(1, 2), 9);
        y.days(20);
        Due.is("9 at most", y.scute(1, 2), 9);
    }

    private static void whatMoultsOrLeaves() {
        Due.by("what moults or leaves on it: that SCUTE is GONE; THINGS THERE on it are LOST (moult) or AWAY (young)");
        TurtleBack x = turtle(law(5, 1, 1, 30), "5,5 heads 2", "house h on l weighs 5 ties 1 worth 3", "family f on l weighs 5",
                "house i on r weighs 5 ties 1 worth 4", "family g on r weighs 5", "moult l day 1", "young r day 1");
        x.tie(0, true);
        x.tie(1, true);
        x.days(1);
        Due.is("GONE both", x.scute(1, 0) + x.scute(2, 0), 2);
        Due.is("not the other", x.scute(0, 0), 0);
        Due.is("a TIED house is LOST, too", x.house(0, 0), 1);
        Due.is("family LOST", x.family(0, 0), 1);
        Due.is("a house AWAY", x.house(1, 0), 2);
        Due.is("family AWAY", x.family(1, 0), 2);
        Due.is("ahead of the dive, ahead of COINS", x.now(4), 0);
        Due.is("Worth of houses LOST", x.lost(), 3);
        TurtleBack last = turtle(law(99, 30, 0, 30), "5,5 heads 2", "house h on l weighs 5 ties 1 worth 3", "young m day 1",
                "moult l day 99");
        last.tie(0, true);
        last.days(60);
        last.days(38);
        Due.is("DAY 98", last.scute(1, 0), 0);
        last.days(1);
        Due.is("DAY 99", last.scute(1, 0), 1);
        Due.is("what was LOST on it", last.house(0, 0), 1);
        TurtleBack turns = turtle(law(5, 30, 0, 30), "5,5 heads 2", "family f on r weighs 5", "moult r day 1");
        turns.days(1);
        at("it TURNS by the LIST of who is left", turns, 6, 5, 2);
    }

    private static void whenItDives() {
        Due.by("It DIVES if dives goes into t and PLEASED is below calm");
        int[][] dives = {{1, 4}, {2, 2}, {3, 1}, {4, 1}, {5, 0}, {30, 0}};
        for (int[] d : dives) {
            TurtleBack x = turtle(law(99, d[0], 1, 30), "5,5 heads 2");
            x.days(4);
            Due.is("dives " + d[0] + ", in 4 DAYS", x.now(5), d[1]);
            TurtleBack calm = turtle(law(99, d[0], 0, 30), "5,5 heads 2");
            calm.days(4);
            Due.is("PLEASED is calm", calm.now(5), 0);
        }
        TurtleBack last = turtle(law(99, 30, 0, 30), "5,5 heads 2");
        last.days(29);
        Due.is("DAY 29 of dives 30", last.now(5), 0);
        last.days(1);
        Due.is("DAY 30", last.now(5), 1);
        last.days(29);
        Due.is("DAY 59", last.now(5), 1);
        last.days(1);
        Due.is("DAY 60", last.now(5), 2);
        TurtleBack same = turtle(law(99, 1, 0, 30), "5,5 heads 2", "field on m itch 1", "family f on m weighs 1");
        same.days(1);
        Due.is("below calm by the itch of that DAY", same.now(5), 1);
        Due.is("its COINS of that DAY", same.now(4), 1);
    }

    private static void whatADiveTakes() {
        Due.by("houses THERE that aren't TIED (none at first) are LOST, "
                + "then families THERE on a SCUTE without a TIED house THERE; all BARNACLES are 0");
        TurtleBack x = turtle(law(99, 2, 99, 30), "5,5 heads 2", "house h on l weighs 5 ties 1 worth 3",
                "house i on l weighs 5 ties 1 worth 4", "house j on r weighs 5 ties 1 worth 5", "house k on m weighs 1 ties 1 worth 6",
                "family f on l weighs 5", "family g on r weighs 5", "family p on m weighs 5", "moult m day 1");
        Due.is("none TIED at first", x.house(0, 1) + x.house(1, 1) + x.house(2, 1) + x.house(3, 1), 0);
        x.tie(1, true);
        x.tie(3, true);
        x.days(1);
        Due.is("BARNACLES", x.scute(1, 2), 1);
        x.days(1);
        int[] houses = {1, 0, 1, 1};
        int[] families = {0, 1, 1};
        for (int h = 0; h < 4; h++) Due.is("house " + h, x.house(h, 0), houses[h]);
        for (int f = 0; f < 3; f++) Due.is("family " + f, x.family(f, 0), families[f]);
        for (int s = 0; s < 3; s++) Due.is("BARNACLES of " + s, x.scute(s, 2), 0);
        x.tie(1, false);
        x.days(2);
        Due.is("untied, LOST by the next", x.house(1, 0), 1);
        Due.is("its family, too", x.family(0, 0), 1);
        Due.is("Worth of houses LOST", x.lost(), 18);
        for (int i = 0; i < 4; i++) Due.is("led(" + i + ")", Due.led(x, i), i);
        Due.is("led(4)", Due.led(x, 4), -1);
        Due.is("led(-1)", Due.led(x, -1), -1);
    }

    private static void claimedByAnIsle() {
        Due.by("CLAIMED by an isle: behind 3 DAYS one behind the other it was 2 CELLS from it at most "
                + "(the greater one of both), ever");
        TurtleBack x = turtle(law(99, 30, 0, 30), "5,9 heads 0", "isle i at 7,6 from 1 to 1 buys 1",
                "isle j at 8,6 from 1 to 1 buys 1", "isle k at 3,4 from 1 to 1 buys 1", "isle w at 5,9 from 1 to 1 buys 1");
        int[] due = {0, 0, 1, 1, 1 | 4};
        for (int t = 1; t <= 5; t++) {
            x.days(1);
            Due.is("CLAIMED behind DAY " + t, x.now(7), due[t - 1]);
        }
        TurtleBack two = turtle(law(99, 30, 0, 30), "5,9 heads 0", "isle i at 5,9 from 1 to 1 buys 1",
                "isle j at 5,8 from 1 to 1 buys 1");
        two.days(2);
        Due.is("behind 2 DAYS", two.now(7), 0);
        two.days(1);
        Due.is("DAY 3 is 3 off the first, 2 off the second", two.now(7), 2);
        two.days(60);
        Due.is("ever", two.now(7) & 2, 2);
        TurtleBack broken = turtle(law(99, 30, 0, 30), "3,1 heads 0", "isle i at 3,2 from 1 to 1 buys 1");
        broken.days(2);
        broken.image();
        broken.days(1);
        Due.is("three DAYS", broken.now(7), 1);
        broken.restore(0);
        Due.is("by the image not yet", broken.now(7), 0);
    }

    // ---- acts

    private static void theLatest30() {
        Due.by("of those since the latest DAY the latest 30 can be taken back");
        TurtleBack x = turtle(law(99, 30, 99, 30), "5,5 heads 2", "house h on m weighs 1 ties 1 worth 1",
                "house i on m weighs 1 ties 1 worth 1");
        x.tie(1, true);
        for (int i = 1; i <= 29; i++) x.tie(0, i % 2 == 1);
        Due.is("30 can be", x.size(12), 30);
        for (int i = 0; i < 30; i++) Due.is("undo " + i, x.undo(), true);
        Due.is("the first of 30, too", x.house(1, 1), 0);
        Due.refused(x, "undo", x.undo(), 6);
        x.tie(1, true);
        for (int i = 1; i <= 30; i++) x.tie(0, i % 2 == 1);
        Due.is("of 31 the latest 30", x.size(12), 30);
        for (int i = 0; i < 30; i++) Due.is("undo " + i, x.undo(), true);
        Due.refused(x, "undo", x.undo(), 6);
        Due.is("the first of 31 not", x.house(1, 1), 1);
        x.tie(0, true);
        x.days(1);
        Due.is("none of those ahead of a DAY", x.size(12), 0);
        Due.refused(x, "undo", x.undo(), 6);
        x.tie(0, false);
        Due.refused(x, "a DAY that is refused", x.days(61), -1, 2);
        Due.refused(x, "an ACT that is refused", x.tie(0, false), 5);
        Due.is("takes none away", x.size(12), 1);
        Due.is("undo", x.undo(), true);
        Due.is("TIED again", x.house(0, 1), 1);
    }

    private static void wouldHoldTooMuch() {
        Due.by("5 (it isn't THERE, the SCUTE is GONE or is its own, or would hold too much)");
        for (int holds = 19; holds <= 20; holds++) {
            TurtleBack x = turtle(law(99, 30, 99, 30), "5,5 heads 2", "scute n at 1,1 holds " + holds,
                    "house h on n weighs 5 ties 1 worth 1", "family f on n weighs 10", "family g on m weighs 5");
            Due.is("20 where it holds " + holds, x.move(1, 3), holds == 20);
            Due.is("LOAD", x.scute(3, 1), holds == 20 ? 20 : 15);
        }
        TurtleBack over = turtle(law(99, 30, 99, 30), "5,5 heads 2", "scute n at 1,1 holds 1", "family f on n weighs 10");
        Due.is("off one that holds too much", over.move(0, 0), true);
        Due.is("and not back", over.move(0, 3), false);
        Due.is("but by undo", over.undo(), true);
        Due.is("its SCUTE", over.family(0, 1), 3);
    }

    private static void coinsToPay() {
        Due.by("PAY of coins (1 .. 99) to the head: PLEASED is so many more: true; false: 1 (no BEAST); 2; 5 (there are fewer)");
        TurtleBack x = turtle(law(99, 30, 99, 30), "5,5 heads 0", "isle i at 5,4 from 1 to 1 buys 99",
                "isle j at 5,4 from 1 to 1 buys 1");
        x.seed(65_536);
        Due.refused(x, "pay(1) of none", x.pay(1), 5);
        x.days(1);
        Due.is("COINS", x.now(4), 100);
        Due.refused(x, "pay(100) of 100", x.pay(100), 2);
        Due.refused(x, "pay(0)", x.pay(0), 2);
        Due.is("pay(1)", x.pay(1), true);
        Due.is("pay(99) of 99", x.pay(99), true);
        Due.is("COINS", x.now(4), 0);
        Due.is("PLEASED", x.pleased(), 100);
        Due.refused(x, "pay(1) of none", x.pay(1), 5);
        x.undo();
        Due.is("COINS", x.now(4), 99);
        Due.is("PLEASED", x.pleased(), 1);
    }

    private static void barnaclesToScrape() {
        Due.by("its BARNACLES are 0, PLEASED 1 more: true; false: 1; 5 (it is GONE, or has none)");
        TurtleBack x = turtle(law(99, 30, 99, 30), "5,5 heads 0", "moult r day 2");
        Due.refused(x, "none at first", x.scrape(2), 5);
        x.days(1);
        Due.is("one", x.scrape(2), true);
        Due.refused(x, "none any more", x.scrape(2), 5);
        x.undo();
        Due.is("one again", x.scute(2, 2), 1);
        Due.is("PLEASED", x.pleased(), 0);
        x.days(1);
        Due.refused(x, "GONE with one", x.scrape(2), 5);
        Due.is("two", x.scute(0, 2), 2);
        Due.is("scrape(0)", x.scrape(0), true);
        Due.is("PLEASED", x.pleased(), 1);
        Due.is("none", x.scute(0, 2), 0);
    }

    // ---- promises that name numbers

    private static void seedsAndDays() {
        Due.by("SEED: true; false: 1 (no BEAST); 2 (0 .. 65,536)");
        TurtleBack x = turtle(law(99, 30, 0, 30), "5,5 heads 0");
        for (int seed : new int[] {0, 1, 65_535, 65_536}) {
            Due.is("seed(" + seed + ")", x.seed(seed), true);
            Due.refused(x, "seed(-1)", x.seed(-1), 2);
            Due.refused(x, "seed(65537)", x.seed(65_537), 2);
            Due.is("SEED", x.size(8), seed);
        }
        Due.by("So many DAYS (1 .. 60): how many there were in all. NONE: 1 (no BEAST); 2; 3 (more than 200)");
        Due.is("days(1)", x.days(1), 1);
        Due.is("days(60)", x.days(60), 61);
        Due.refused(x, "days(0)", x.days(0), -1, 2);
        Due.refused(x, "days(61)", x.days(61), -1, 2);
        Due.is("days(60)", x.days(60), 121);
        Due.is("days(20)", x.days(20), 141);
        Due.refused(x, "days(60), 201", x.days(60), -1, 3);
        Due.is("none of them passed", x.size(7), 141);
        x.image();
        Due.is("days(59), 200", x.days(59), 200);
        Due.refused(x, "days(1), 201", x.days(1), -1, 3);
        Due.refused(x, "days(60), 260", x.days(60), -1, 3);
        Due.is("log of the last", x.log(200, 0) * 10 + x.log(200, 1), x.now(0) * 10 + x.now(1));
        Due.refused(x, "log(201, 0)", x.log(201, 0), -1, 1);
        x.restore(0);
        Due.refused(x, "log(142, 0), not yet again", x.log(142, 0), -1, 1);
        Due.is("days(58), 199", x.days(58), 199);
        Due.refused(x, "days(2), 201", x.days(2), -1, 3);
        Due.is("days(1), 200", x.days(1), 200);
    }

    private static void noSuchDayYet() {
        Due.by("Where it was behind DAY t, 0 first, 1 second WHOLE. NONE: 1 (no such DAY yet, what)");
        TurtleBack x = turtle(law(99, 30, 0, 30), "5,7 heads 1");
        Due.is("DAY 0", x.log(0, 0), 5);
        Due.is("DAY 0", x.log(0, 1), 7);
        Due.refused(x, "DAY 1, not yet", x.log(1, 0), -1, 1);
        Due.refused(x, "DAY -1", x.log(-1, 0), -1, 1);
        x.days(1);
        Due.is("DAY 1", x.log(1, 0), 6);
        Due.is("DAY 1", x.log(1, 1), 6);
        Due.refused(x, "DAY 2, not yet", x.log(2, 1), -1, 1);
        Due.refused(x, "log(1, -1)", x.log(1, -1), -1, 1);
        Due.refused(x, "log(1, 2)", x.log(1, 2), -1, 1);
    }

    private static void theLastOfEachSort() {
        Due.by("Of a house 0 whether it is THERE (0), LOST (1), AWAY (2), 1 whether it is TIED (1). NONE: 1.");
        TurtleBack x = turtle(law(99, 30, 0, 30), "5,7 heads 1", "house h on m weighs 1 ties 1 worth 1",
                "house i on m weighs 1 ties 1 worth 1", "family f on r weighs 1");
        Due.is("house(1, 1)", x.house(1, 1), 0);
        x.tie(1, true);
        Due.is("house(1, 1)", x.house(1, 1), 1);
        Due.refused(x, "house(2, 0)", x.house(2, 0), -1, 1);
        Due.by("Of a family 0 likewise, 1 its SCUTE. NONE: 1.");
        Due.is("family(0, 1)", x.family(0, 1), 2);
        Due.refused(x, "family(1, 0)", x.family(1, 0), -1, 1);
        Due.by("Of a SCUTE 0 whether it is GONE (1), 1 LOAD, 2 BARNACLES. NONE: 1.");
        Due.is("scute(2, 1)", x.scute(2, 1), 1);
        Due.refused(x, "scute(3, 1)", x.scute(3, 1), -1, 1);
        Due.refused(x, "scute(2, 3)", x.scute(2, 3), -1, 1);
        Due.by("4 COINS, 5 how often it dived, 6 isles that bought, as bits, 7 CLAIMED, as bits. NONE: 1 (no BEAST, what).");
        Due.is("now(7)", x.now(7), 0);
        Due.refused(x, "now(8)", x.now(8), -1, 1);
        Due.refused(x, "now(-1)", x.now(-1), -1, 1);
    }

    public static void main(String[] args) {
        loadListPitch();
        theFirstTooFull();
        allCellsByAllHeadings();
        turnsGoRound();
        hungryOrMore();
        theNearestWeed();
        listFeelsOrMore();
        calmOrMore();
        drawsGoRound();
        atWeedHungerIs0();
        coinsOfFamiliesAndIsles();
        pleasedIsLess();
        barnaclesOf5OrMore();
        whatMoultsOrLeaves();
        whenItDives();
        whatADiveTakes();
        claimedByAnIsle();
        theLatest30();
        wouldHoldTooMuch();
        coinsToPay();
        barnaclesToScrape();
        seedsAndDays();
        noSuchDayYet();
        theLastOfEachSort();
        Due.end();
    }
}
