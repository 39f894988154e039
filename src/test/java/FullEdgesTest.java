/** Promises 1 to 41 by a BEAST that has as much as there is room for: the last of each sort has its part in each call. */
public final class FullEdgesTest {
    /** 22 NAMES, the eighth scute's the last of them; weed and isle where it swims to on DAY 1. */
    private static String full() {
        StringBuilder text = new StringBuilder("law keel0mid0feels99dives30calm50hungry30;begins at5,5heads2");
        for (char c = 'a'; c <= 'g'; c++) text.append(";scute ").append(c).append(" at1,0holds9");
        for (char c = 'i'; c <= 'n'; c++) text.append(";house ").append(c).append(" on g weighs1ties1worth1");
        for (char c = 'o'; c <= 'r'; c++) text.append(";family ").append(c).append(" on g weighs1");
        for (int i = 0; i < 3; i++) text.append(";weed at0,9");
        text.append(";weed at6,6");
        for (char c = 's'; c <= 'u'; c++) text.append(";isle ").append(c).append(" at0,0from1to1buys1");
        text.append(";isle v at6,6from1to1buys50");
        text.append(";scute h at9,9holds1");
        for (int i = 0; i < 3; i++) text.append(";field on a itch1");
        text.append(";field on h itch5;moult a day99;young b day98;moult h day9");
        return text.toString();
    }

    private static void sizesAre(TurtleBack x) {
        int[] sizes = {8, 6, 4, 4, 4, 4, 3};
        for (int i = 0; i < sizes.length; i++) Due.is("size(" + i + ")", x.size(i), sizes[i]);
    }

    private static void asManyAsThereIsRoomFor() {
        Due.by("(0 .. 9 each; 1 .. 99; up to 8)");
        Due.is("it goes onto the tape: " + full().length(), full().length() <= 900, true);
        TurtleBack x = new TurtleBack();
        for (int i = 0; i < 2; i++) {
            Due.is("a beast", Due.tell(x, full()), 8);
            sizesAre(x);
        }
        Due.fault(full() + ";scute x at0,0holds1", 5, full().length() + 1);
        Due.fault(full() + ";moult c day 1", 5, full().length() + 1);
        Due.fault(full().replace("scute h at9", "scute v at9"), 3, full().indexOf("scute h") + 6);
        Due.fault(full().replace("on h itch5", "on v itch5"), 2, full().indexOf("on h itch5") + 3);
    }

    private static void theLastOfEachSort() {
        Due.by("LOAD of a SCUTE: all weights of THINGS THERE on it");
        TurtleBack x = Due.told(full());
        Due.is("LOAD of the seventh", x.scute(6, 1), 10);
        Due.is("LOAD of the eighth", x.scute(7, 1), 0);
        Due.is("the seventh holds 9", x.judge(), 6);
        Due.is("the fourth family moves", x.move(3, 7), true);
        Due.is("none is too full", x.judge(), -2);
        Due.is("the eighth holds 1", x.move(2, 7), false);
        Due.is("LOAD of the eighth", x.scute(7, 1), 1);
        Due.is("the SCUTE of the fourth", x.family(3, 1), 7);
        Due.is("LIST", x.list(), 9 + 9);
        Due.is("PITCH", x.pitch(), 9);
        Due.is("all houses", x.saved(6), 63);
        Due.is("the sixth is tied", x.tie(5, true), true);
        Due.is("SAVE in no minute", x.saved(0), 32);
        Due.is("its worth", x.save(0), 1);
        Due.is("SAVE in one", x.saved(1), 33);
    }

    private static void theLastOfEachSortByDays() {
        Due.by("PLEASED is less by itch of all fields on SCUTES that aren't GONE");
        TurtleBack x = Due.told(full());
        x.move(3, 7);
        x.tie(5, true);
        Due.is("DAY 1", x.days(1), 1);
        Due.is("at weed", x.now(3), 0);
        Due.is("the fourth isle bought", x.now(6), 8);
        Due.is("COINS", x.now(4), 4 + 50);
        Due.is("PLEASED", x.pleased(), -8);
        Due.is("BARNACLES of the eighth", x.scute(7, 2), 1);
        Due.is("image", x.image(), 0);
        Due.is("scrape", x.scrape(7), true);
        Due.is("BARNACLES scraped", x.scute(7, 2), 0);
        Due.is("undo", x.undo(), true);
        Due.is("BARNACLES again", x.scute(7, 2), 1);
        x.days(7);
        Due.is("BARNACLES of the eighth behind DAY 8", x.scute(7, 2), 8);
        Due.is("PLEASED behind DAY 8", x.pleased(), 5 * -8 + 3 * -16);
        x.days(1);
        Due.is("the eighth moults", x.scute(7, 0), 1);
        Due.is("the fourth family is LOST", x.family(3, 0), 1);
        Due.is("the third isn't", x.family(2, 0), 0);
        Due.is("PLEASED behind DAY 9", x.pleased(), -88 - 3 - 7);
        x.days(21);
        Due.is("it dived", x.now(5), 1);
        Due.is("the sixth house stays", x.house(5, 0), 0);
        Due.is("the fifth is LOST", Due.led(x, 4), 4);
        Due.is("no sixth that is", Due.led(x, 5), -1);
        Due.is("BARNACLES behind a dive", x.scute(7, 2) + x.scute(0, 2), 0);
        Due.is("restore", x.restore(0), true);
        Due.is("BARNACLES by the image", x.scute(7, 2), 1);
        Due.is("not GONE by the image", x.scute(7, 0), 0);
        Due.is("THERE by the image", x.family(3, 0) + x.house(4, 0), 0);
    }

    /** Eight scutes; only when all four families are on the eighth it is as it must be. */
    private static String toTheEighth(String law, String rest) {
        StringBuilder text = new StringBuilder("law ").append(law).append(";begins at 5,5 heads 0");
        for (char c = 'a'; c <= 'g'; c++) text.append(";scute ").append(c).append(" at 1,1 holds 99");
        text.append(";scute h at 0,0 holds 4").append(rest);
        for (char c = 'o'; c <= 'r'; c++) text.append(";family ").append(c).append(" on a weighs 1");
        return text.toString();
    }

    private static void theLastOfAllWays() {
        Due.by("of these the first by SCUTES of families, by LINES");
        TurtleBack x = Due.told(toTheEighth("keel 0 mid 0 feels 1 dives 30 calm 9 hungry 30", ""));
        Due.is("trim(0, 9999)", x.trim(0, 9999), 4);
        Due.is("trim(9999, 0)", x.trim(9999, 0), 4);
        for (int f = 0; f < 4; f++) Due.is("family " + f, x.trimAt(0, 0, f), 7);
        Due.is("helm", x.helm(), 2 + 4);
        Due.is("trim(4, 4)", x.trim(4, 4), 0);
        Due.is("trim(1, 1)", x.trim(1, 1), 3);
        int[] homes = {0, 7, 7, 7};
        for (int f = 0; f < 4; f++) Due.is("family " + f, x.trimAt(1, 1, f), homes[f]);
        TurtleBack y = Due.told(toTheEighth("keel 1 mid 0 feels 4 dives 30 calm 9 hungry 30", ""));
        Due.is("helm by the last of all ways", y.helm(), 1 + 2);
        TurtleBack all = Due.told(toTheEighth("keel 1 mid 0 feels 4 dives 30 calm 9 hungry 30", "")
                .replace("scute g at 1", "scute g at 9"));
        Due.is("helm, the left by the last of all ways", all.helm(), 7);
    }

    private static void shelterOnTheEighth() {
        Due.by("SHELTER: likewise if families move first (as in TRIM)");
        TurtleBack x = Due.told(toTheEighth("keel 0 mid 0 feels 1 dives 30 calm 9 hungry 30", ""));
        Due.is("without a house", x.shelter(), -2);
        String house = ";house i on h weighs 1 ties 60 worth 1";
        TurtleBack heavy = Due.told(toTheEighth("keel 0 mid 0 feels 1 dives 30 calm 9 hungry 30", house));
        Due.is("the eighth would hold 5", heavy.shelter(), -2);
        TurtleBack one = Due.told(toTheEighth("keel 0 mid 0 feels 1 dives 30 calm 9 hungry 30", house)
                .replace("holds 4", "holds 5"));
        Due.is("all on the eighth", one.shelter(), 60);
        Due.is("as they are", one.must(), -2);
        one.tie(0, true);
        Due.is("it is TIED", one.shelter(), 0);
        for (int f = 0; f < 4; f++) Due.is("move " + f, one.move(f, 7), true);
        Due.is("there they are", one.must(), 0);
        one.tie(0, false);
        Due.is("there they are, not TIED", one.must(), 60);
    }

    public static void main(String[] args) {
        asManyAsThereIsRoomFor();
        theLastOfEachSort();
        theLastOfEachSortByDays();
        theLastOfAllWays();
        shelterOnTheEighth();
        Due.end();
    }
}
