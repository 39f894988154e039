/** Promises 6 to 17: days by draws, what they bring, and what is told of them. */
public final class DaysTest {
    /** Calm 0 and nothing that itches: it swims on as it was, till barnacles tell. */
    private static final String STEADY = "keel 1 mid 1 feels 99 dives 30 calm 0 hungry 30";
    /** Never calm: it turns by whims. */
    private static final String WHIMS = "keel 1 mid 1 feels 99 dives 30 calm 99 hungry 30";
    private static final String SCUTE = "scute a at 1,1 holds 9";

    private static void at(String when, TurtleBack x, int first, int second, int heading) {
        Due.is(when + ": first", x.now(0), first);
        Due.is(when + ": second", x.now(1), second);
        Due.is(when + ": heading", x.now(2), heading);
    }

    private static void seeds() {
        TurtleBack x = Due.turtle(WHIMS, "at 5,5 heads 0", SCUTE);
        Due.is("seed at first", x.size(8), 0);
        Due.refused(x, "seed(-1)", x.seed(-1), 2);
        Due.refused(x, "seed(65537)", x.seed(65537), 2);
        Due.is("seed(65536)", x.seed(65536), true);
        Due.is("trouble", x.trouble(), 0);
        Due.is("SEED", x.size(8), 65536);
        x.days(1);
        Due.is("75 times -1 and 74 is -1", x.size(8), 65536);
        at("a whim of 65536 mod 3: none", x, 5, 4, 0);
        Due.is("seed(0)", x.seed(0), true);
        Due.is("SEED", x.size(8), 0);
    }

    private static void whims() {
        TurtleBack x = Due.turtle(WHIMS, "at 5,5 heads 0", SCUTE);
        int[] seeds = {74, 5624, 28652, 51790};
        int[] headings = {1, 2, 3, 3};
        for (int i = 0; i < seeds.length; i++) {
            x.days(1);
            Due.is("SEED of day " + (i + 1), x.size(8), seeds[i]);
            Due.is("HEADING of day " + (i + 1), x.now(2), headings[i]);
        }
        TurtleBack y = Due.turtle(WHIMS, "at 5,5 heads 0", SCUTE);
        y.seed(3);
        y.days(1);
        Due.is("75 times 3 and 74", y.size(8), 299);
        at("299 mod 3 is 2", y, 6, 4, 1);
        y.seed(2);
        y.days(1);
        Due.is("75 times 2 and 74", y.size(8), 224);
        Due.is("224 mod 3 is 2", y.now(2), 2);
        y.seed(875);
        y.days(1);
        Due.is("75 times 875 and 74 mod 65537", y.size(8), 162);
        Due.is("162 mod 3 is 0: one to the left", y.now(2), 1);
    }

    private static void headings() {
        int[][] to = {{5, 4}, {6, 4}, {6, 5}, {6, 6}, {5, 6}, {4, 6}, {4, 5}, {4, 4}};
        for (int h = 0; h < 8; h++) {
            TurtleBack x = Due.turtle(STEADY, "at 5,5 heads " + h, SCUTE);
            x.days(1);
            at("heading " + h, x, to[h][0], to[h][1], h);
            Due.is("no draw", x.size(8), 0);
        }
        for (int h = 0; h < 8; h += 2) {
            TurtleBack x = Due.turtle(STEADY, "at " + (h == 6 ? 0 : 9) + "," + (h == 0 ? 0 : 9) + " heads " + h, SCUTE);
            int first = x.now(0);
            int second = x.now(1);
            x.days(1);
            at("off the sea by heading " + h, x, first, second, (h + 4) % 8);
        }
        TurtleBack x = Due.turtle(STEADY, "at 5,0 heads 1", SCUTE);
        x.days(1);
        at("off the sea aslant", x, 5, 0, 5);
        x.days(1);
        at("and back", x, 4, 1, 5);
    }

    private static void turnsByList() {
        String law = "keel 1 mid 1 feels 10 dives 30 calm 0 hungry 30";
        String scutes = "scute l at 0,1 holds 9;scute r at 2,1 holds 9;";
        TurtleBack right = Due.turtle(law, "at 5,5 heads 0", scutes + "family f on r weighs 10");
        right.days(1);
        at("LIST 10", right, 6, 4, 1);
        TurtleBack left = Due.turtle(law, "at 5,5 heads 0", scutes + "family f on l weighs 10");
        left.days(1);
        at("LIST -10", left, 4, 4, 7);
        for (String side : new String[] {"l", "r"}) {
            TurtleBack none = Due.turtle(law, "at 5,5 heads 0", scutes + "family f on " + side + " weighs 9");
            none.days(1);
            at("LIST 9 off", none, 5, 4, 0);
        }
        Due.is("no draw by LIST", right.size(8), 0);
    }

    private static void turnsToWeed() {
        String law = "keel 1 mid 1 feels 10 dives 30 calm 0 hungry 1";
        TurtleBack x = Due.turtle(law, "at 5,8 heads 2", SCUTE + ";weed at 5,5");
        x.days(1);
        at("up to weed", x, 5, 7, 0);
        Due.is("HUNGER", x.now(3), 1);
        x.days(2);
        at("at weed", x, 5, 5, 0);
        Due.is("HUNGER at weed", x.now(3), 0);
        x.days(1);
        at("on from weed", x, 5, 4, 0);
        Due.is("HUNGER", x.now(3), 1);
        x.days(1);
        at("back", x, 5, 5, 4);
        TurtleBack first = Due.turtle(law, "at 5,5 heads 2", SCUTE + ";weed at 8,4;weed at 3,3;weed at 7,7");
        first.days(1);
        at("the first of the nearest", first, 4, 4, 7);
        TurtleBack greater = Due.turtle(law, "at 5,5 heads 2", SCUTE + ";weed at 5,8;weed at 7,7");
        greater.days(1);
        at("the greater one of both", greater, 6, 6, 3);
        int[][] weeds = {{5, 1}, {9, 1}, {9, 5}, {6, 9}, {5, 9}, {1, 6}, {1, 5}, {4, 1}};
        for (int h = 0; h < 8; h++) {
            TurtleBack y = Due.turtle(law, "at 5,5 heads 2", SCUTE + ";weed at " + weeds[h][0] + "," + weeds[h][1]);
            y.days(1);
            Due.is("heading by signs " + h, y.now(2), h);
        }
    }

    private static void hungerComesAheadOfList() {
        String law = "keel 0 mid 1 feels 1 dives 30 calm 0 hungry 2";
        String rest = SCUTE + ";family f on a weighs 5";
        TurtleBack x = Due.turtle(law, "at 5,5 heads 0", rest + ";weed at 1,5");
        x.days(1);
        Due.is("not hungry yet: by LIST", x.now(2), 1);
        x.days(1);
        Due.is("hungry: to the weed", x.now(2), 5);
        TurtleBack y = Due.turtle(law, "at 5,5 heads 0", rest);
        y.days(3);
        Due.is("no weed: by LIST", y.now(2), 3);
        Due.is("HUNGER goes on", y.now(3), 3);
        TurtleBack z = Due.turtle("keel 1 mid 1 feels 99 dives 30 calm 99 hungry 9", "at 5,5 heads 0", SCUTE
                + ";weed at 6,4");
        z.days(1);
        at("by a whim onto weed", z, 6, 4, 1);
        Due.is("HUNGER at weed", z.now(3), 0);
    }

    private static void calmSwimsOn() {
        String law = "keel 1 mid 1 feels 99 dives 30 calm 3 hungry 30";
        TurtleBack x = Due.turtle(law, "at 5,9 heads 0", SCUTE + ";family f on a weighs 1");
        x.days(3);
        Due.is("three draws", x.size(8), 28652);
        x.pay(3);
        x.days(1);
        Due.is("no draw: PLEASED is calm", x.size(8), 28652);
    }

    private static void countsOfDays() {
        TurtleBack x = Due.turtle(STEADY, "at 5,5 heads 0", SCUTE);
        Due.refused(x, "days(0)", x.days(0), -1, 2);
        Due.refused(x, "days(61)", x.days(61), -1, 2);
        Due.refused(x, "days(MAX)", x.days(Integer.MAX_VALUE), -1, 2);
        Due.is("days(60)", x.days(60), 60);
        Due.is("trouble", x.trouble(), 0);
        Due.is("days(60)", x.days(60), 120);
        Due.is("days(21)", x.days(21), 141);
        Due.refused(x, "days(60)", x.days(60), -1, 3);
        Due.is("DAYS", x.size(7), 141);
        Due.refused(x, "days(61)", x.days(61), -1, 2);
        Due.is("days(59)", x.days(59), 200);
        Due.refused(x, "days(1)", x.days(1), -1, 3);
        Due.is("log of the last", x.log(200, 0), x.now(0));
    }

    private static void coins() {
        String isles = ";isle i at 5,3 from 2 to 2 buys 7;isle j at 5,3 from 1 to 9 buys 20;isle k at 5,2 from 1 to 2 buys 50"
                + ";isle m at 5,2 from 4 to 9 buys 3";
        TurtleBack x = Due.turtle(STEADY, "at 5,5 heads 0", SCUTE + isles);
        x.days(1);
        Due.is("COINS", x.now(4), 0);
        x.days(1);
        Due.is("two isles buy", x.now(4), 27);
        Due.is("as bits", x.now(6), 3);
        x.days(1);
        Due.is("not in its DAYS", x.now(4), 27);
        TurtleBack y = Due.turtle(STEADY, "at 5,1 heads 0", SCUTE + isles + ";family f on a weighs 1;family g on a weighs 1");
        y.days(1);
        Due.is("a coin for each family", y.now(4), 2);
        y.days(3);
        Due.is("an isle in its first DAY, and four DAYS", y.now(4), 8 + 3);
        Due.is("as bits", y.now(6), 8);
        y.days(1);
        Due.is("another isle in between", y.now(4), 10 + 3 + 20);
        TurtleBack once = Due.turtle(STEADY, "at 5,1 heads 0", SCUTE + ";isle i at 5,0 from 1 to 9 buys 7");
        once.days(1);
        Due.is("it buys", once.now(4), 7);
        once.days(1);
        Due.is("there still, but once", once.now(4), 7);
        y.days(60);
        y.days(60);
        Due.is("each buys once, the families are lost on day 30", y.now(4), 60 + 3 + 20);
        Due.is("as bits", y.now(6), 10);
    }

    private static void itches() {
        TurtleBack x = Due.turtle("keel 1 mid 1 feels 99 dives 30 calm 0 hungry 30", "at 5,5 heads 0",
                "scute a at 1,1 holds 9;scute b at 1,1 holds 9;field on a itch 3;field on a itch 4;field on b itch 9"
                        + ";moult b day 2");
        x.days(1);
        Due.is("all fields", x.pleased(), -16);
        Due.is("trouble", x.trouble(), 0);
        x.days(1);
        Due.is("but those that are gone", x.pleased(), -23);
        TurtleBack y = Due.turtle(WHIMS, "at 5,5 heads 0", "scute a at 1,1 holds 9;field on a itch 9;field on a itch 9"
                + ";field on a itch 9;field on a itch 9");
        y.days(27);
        Due.is("27 days, 22 of them with barnacles, a dive none", y.pleased(), -994);
        y.days(1);
        Due.is("-999 at least", y.pleased(), -999);
        y.days(5);
        Due.is("-999 at least", y.pleased(), -999);
    }

    private static void barnacles() {
        TurtleBack x = Due.turtle("keel 1 mid 1 feels 99 dives 30 calm 99 hungry 30", "at 5,5 heads 0",
                "scute a at 1,1 holds 9;scute b at 1,1 holds 9;young b day 4");
        int[] pleased = {0, 0, 0, 0, 0, -1, -2, -3, -4, -5, -6};
        for (int t = 1; t <= pleased.length; t++) {
            x.days(1);
            Due.is("BARNACLES of day " + t, x.scute(0, 2), Math.min(t, 9));
            Due.is("BARNACLES of one that is gone, day " + t, x.scute(1, 2), Math.min(t, 3));
            Due.is("PLEASED of day " + t, x.pleased(), pleased[t - 1]);
        }
        x.days(18);
        Due.is("no dive yet", x.now(5), 0);
        x.days(1);
        Due.is("it dived", x.now(5), 1);
        Due.is("all are 0", x.scute(0, 2), 0);
        Due.is("those that are gone too", x.scute(1, 2), 0);
        TurtleBack two = Due.turtle(WHIMS, "at 5,5 heads 0", "scute a at 1,1 holds 9;scute b at 1,1 holds 9");
        two.days(6);
        Due.is("1 for each SCUTE", two.pleased(), -2);
    }

    private static void dives() {
        String rest = "scute a at 1,1 holds 9;scute b at 1,1 holds 9;house h on a weighs 1 ties 1 worth 5"
                + ";house i on b weighs 1 ties 1 worth 7;house j on a weighs 1 ties 1 worth 11"
                + ";family f on a weighs 1;family g on b weighs 1";
        TurtleBack x = Due.turtle("keel 1 mid 1 feels 99 dives 2 calm 5 hungry 30", "at 5,5 heads 0", rest);
        x.tie(0, true);
        x.days(1);
        Due.is("not on day 1", x.now(5), 0);
        x.days(1);
        Due.is("on day 2", x.now(5), 1);
        int[] houses = {0, 1, 1};
        for (int h = 0; h < 3; h++) Due.is("house " + h, x.house(h, 0), houses[h]);
        Due.is("a family beside a tied house", x.family(0, 0), 0);
        Due.is("a family without", x.family(1, 0), 1);
        Due.is("its SCUTE", x.family(1, 1), 1);
        Due.is("worth LOST", x.lost(), 18);
        Due.is("the first", Due.led(x, 0), 1);
        Due.is("the second", Due.led(x, 1), 2);
        Due.is("no third", Due.led(x, 2), -1);
        Due.is("none ahead of the first", Due.led(x, -1), -1);
        Due.is("coins of two families, twice", x.now(4), 4);
        x.days(2);
        Due.is("on day 4", x.now(5), 2);
        Due.is("coins of one family", x.now(4), 6);
        x.pay(5);
        x.days(2);
        Due.is("PLEASED is calm: not on day 6", x.now(5), 2);
        TurtleBack calm = Due.turtle("keel 1 mid 1 feels 99 dives 1 calm 0 hungry 30", "at 5,5 heads 0", rest
                + ";field on b itch 1;moult b day 3");
        calm.days(2);
        Due.is("below calm", calm.now(5), 2);
        Due.is("all families", calm.family(0, 0) + calm.family(1, 0), 2);
        TurtleBack even = Due.turtle("keel 1 mid 1 feels 99 dives 1 calm 0 hungry 30", "at 5,5 heads 0", rest);
        even.days(2);
        Due.is("PLEASED 0 is not below 0", even.now(5), 0);
    }

    private static void claims() {
        String isles = ";isle i at 5,3 from 1 to 1 buys 1;isle j at 2,5 from 1 to 1 buys 1;isle k at 7,2 from 1 to 1 buys 1";
        TurtleBack x = Due.turtle(STEADY, "at 5,6 heads 0", SCUTE + isles);
        x.days(2);
        Due.is("behind two days", x.now(7), 0);
        x.days(1);
        Due.is("behind three days, 2 from it at most", x.now(7), 1);
        x.days(1);
        Due.is("k since day 2", x.now(7), 5);
        x.days(60);
        Due.is("ever", x.now(7) & 5, 5);
        TurtleBack far = Due.turtle(STEADY, "at 1,9 heads 1", SCUTE + ";isle i at 1,6 from 1 to 1 buys 1"
                + ";isle j at 5,5 from 1 to 1 buys 1");
        far.days(3);
        Due.is("days 1, 2, not 3", far.now(7), 0);
        far.days(2);
        Due.is("days 3, 4, 5 for j", far.now(7), 2);
        TurtleBack gap = Due.turtle(STEADY, "at 4,9 heads 4", SCUTE + ";isle i at 4,9 from 1 to 1 buys 1");
        gap.days(2);
        Due.is("days 1, 2", gap.now(7), 0);
        gap.days(1);
        Due.is("days 1, 2, 3", gap.now(7), 1);
    }

    private static void partings() {
        String rest = "scute a at 3,1 holds 50;scute b at 0,2 holds 50;scute c at 1,1 holds 9;house h on a weighs 6 ties 1 worth 5"
                + ";house i on b weighs 5 ties 1 worth 7;family f on a weighs 7;family g on b weighs 3;family k on c weighs 4"
                + ";moult a day 2;young b day 3";
        TurtleBack x = Due.turtle("keel 1 mid 1 feels 20 dives 30 calm 0 hungry 30", "at 5,5 heads 0", rest);
        Due.is("LIST", x.list(), 18);
        Due.is("PITCH", x.pitch(), 8);
        x.tie(0, true);
        x.move(2, 0);
        Due.is("LIST", x.list(), 26);
        x.days(1);
        at("right by LIST", x, 6, 4, 1);
        Due.is("not gone yet", x.scute(0, 0), 0);
        x.days(1);
        Due.is("gone", x.scute(0, 0), 1);
        Due.is("b not", x.scute(1, 0), 0);
        Due.is("LOST", x.house(0, 0), 1);
        Due.is("and TIED still", x.house(0, 1), 1);
        Due.is("family LOST", x.family(0, 0), 1);
        Due.is("who moved there LOST", x.family(2, 0), 1);
        Due.is("its SCUTE", x.family(2, 1), 0);
        Due.is("LOAD", x.scute(0, 1), 0);
        Due.is("LIST of the rest, ahead of the turn", x.list(), -8);
        at("on by LIST -8", x, 7, 3, 1);
        Due.is("coins of one family", x.now(4), 3 + 1);
        x.days(1);
        Due.is("AWAY", x.house(1, 0), 2);
        Due.is("family AWAY", x.family(1, 0), 2);
        Due.is("LOST alone counts", x.lost(), 5);
        Due.is("the first", Due.led(x, 0), 0);
        Due.is("no second", Due.led(x, 1), -1);
        Due.is("LIST", x.list(), 0);
        Due.is("PITCH", x.pitch(), 0);
    }

    private static void logs() {
        TurtleBack x = Due.turtle(STEADY, "at 5,6 heads 1", SCUTE);
        x.days(3);
        for (int t = 0; t <= 3; t++) {
            Due.is("first of day " + t, x.log(t, 0), 5 + t);
            Due.is("second of day " + t, x.log(t, 1), 6 - t);
        }
        Due.is("trouble", x.trouble(), 0);
        Due.refused(x, "log(4, 0)", x.log(4, 0), -1, 1);
        Due.refused(x, "log(-1, 0)", x.log(-1, 0), -1, 1);
        Due.refused(x, "log(1, 2)", x.log(1, 2), -1, 1);
        Due.refused(x, "log(1, -1)", x.log(1, -1), -1, 1);
    }

    private static void whatThereIsNot() {
        TurtleBack x = Due.told(Due.PLAIN);
        Due.refused(x, "now(-1)", x.now(-1), -1, 1);
        Due.refused(x, "now(8)", x.now(8), -1, 1);
        int[][] none = {{-1, 0}, {2, 0}, {0, -1}, {0, 2}, {Integer.MIN_VALUE, 0}, {Integer.MAX_VALUE, 1}};
        for (int[] n : none) {
            Due.refused(x, "house(" + n[0] + ", " + n[1] + ")", x.house(n[0], n[1]), -1, 1);
            Due.refused(x, "family(" + n[0] + ", " + n[1] + ")", x.family(n[0], n[1]), -1, 1);
        }
        int[][] noScute = {{-1, 0}, {3, 0}, {0, -1}, {0, 3}};
        for (int[] n : noScute) Due.refused(x, "scute(" + n[0] + ", " + n[1] + ")", x.scute(n[0], n[1]), -1, 1);
        Due.is("house(0, 0)", x.house(0, 0), 0);
        Due.is("trouble", x.trouble(), 0);
        Due.is("family(1, 1)", x.family(1, 1), 2);
        Due.is("trouble", x.trouble(), 0);
    }

    private static void listPitchJudge() {
        String rest = "scute a at 9,8 holds 30;scute b at 0,0 holds 20;scute c at 3,4 holds 20"
                + ";house h on a weighs 10 ties 1 worth 5;house i on b weighs 20 ties 1 worth 7"
                + ";family f on a weighs 20;family g on c weighs 21";
        TurtleBack x = Due.turtle("keel 3 mid 5 feels 20 dives 30 calm 0 hungry 30", "at 5,5 heads 0", rest);
        Due.is("LIST", x.list(), 30 * 6 - 20 * 3);
        Due.is("trouble", x.trouble(), 0);
        Due.is("PITCH", x.pitch(), 30 * 3 - 20 * 5 - 21);
        Due.is("trouble", x.trouble(), 0);
        Due.is("LOAD", x.scute(0, 1), 30);
        Due.is("LOAD", x.scute(1, 1), 20);
        Due.is("LOAD", x.scute(2, 1), 21);
        Due.is("judge", x.judge(), 2);
        Due.is("trouble", x.trouble(), 0);
        TurtleBack first = Due.turtle(STEADY, "at 5,5 heads 0", "scute a at 0,0 holds 9;family f on a weighs 10");
        Due.is("of all the first", first.judge(), 0);
        TurtleBack y = Due.turtle(STEADY, "at 5,5 heads 0", "scute a at 0,0 holds 9;scute b at 0,0 holds 9"
                + ";family f on b weighs 10;scute c at 0,0 holds 9;family g on c weighs 10;moult b day 1;moult c day 2");
        Due.is("the first", y.judge(), 1);
        y.days(1);
        Due.is("the next", y.judge(), 2);
        y.days(1);
        Due.is("none", y.judge(), -2);
    }

    public static void main(String[] args) {
        seeds();
        whims();
        headings();
        turnsByList();
        turnsToWeed();
        hungerComesAheadOfList();
        calmSwimsOn();
        countsOfDays();
        coins();
        itches();
        barnacles();
        dives();
        claims();
        partings();
        logs();
        whatThereIsNot();
        listPitchJudge();
        Due.end();
    }
}
