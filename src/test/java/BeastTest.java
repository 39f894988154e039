import java.util.NoSuchElementException;

/** Promises 1 to 5: a new object, the tape, the text of a beast and its faults. */
public final class BeastTest {
    private static final String LAW = "law keel 1 mid 1 feels 1 dives 1 calm 1 hungry 1";
    private static final String BEGINS = "begins at 1,1 heads 7";
    private static final String SCUTE = "scute a at 1,1 holds 9";
    private static final String WHOLE = LAW + ";" + BEGINS + ";" + SCUTE;

    private static void aNewObjectHasNoBeast() {
        TurtleBack x = new TurtleBack();
        Due.is("trouble()", x.trouble(), 0);
        Due.is("fault()", x.fault(), 0);
        Due.is("where()", x.where(), -1);
        for (int what = 0; what <= 12; what++) Due.is("size(" + what + ")", x.size(what), 0);
        Due.refused(x, "seed(0)", x.seed(0), 1);
        Due.refused(x, "days(1)", x.days(1), -1, 1);
        Due.refused(x, "now(0)", x.now(0), -1, 1);
        Due.refused(x, "pleased()", x.pleased(), -1000, 1);
        Due.refused(x, "log(0, 0)", x.log(0, 0), -1, 1);
        Due.refused(x, "house(0, 0)", x.house(0, 0), -1, 1);
        Due.refused(x, "family(0, 0)", x.family(0, 0), -1, 1);
        Due.refused(x, "scute(0, 0)", x.scute(0, 0), -1, 1);
        Due.refused(x, "list()", x.list(), -100_000, 1);
        Due.refused(x, "pitch()", x.pitch(), -100_000, 1);
        Due.refused(x, "judge()", x.judge(), -1, 1);
        Due.refused(x, "lost()", x.lost(), -1, 1);
        actsAreRefused(x);
        chartsAreRefused(x);
        boolean thrown = false;
        try {
            x.led(0);
        } catch (NoSuchElementException e) {
            thrown = true;
        }
        Due.is("led(0) throws", thrown, true);
    }

    private static void actsAreRefused(TurtleBack x) {
        Due.refused(x, "move(0, 0)", x.move(0, 0), 1);
        Due.refused(x, "tie(0, true)", x.tie(0, true), 1);
        Due.refused(x, "pay(0)", x.pay(0), 1);
        Due.refused(x, "scrape(0)", x.scrape(0), 1);
        Due.refused(x, "undo()", x.undo(), 6);
        Due.refused(x, "trim(-1, 0)", x.trim(-1, 0), -1, 1);
        Due.refused(x, "trimAt(-1, 0, 0)", x.trimAt(-1, 0, 0), -1, 1);
        Due.refused(x, "helm()", x.helm(), -1, 1);
        Due.refused(x, "steer(-1, 0)", x.steer(-1, 0), -1, 1);
        Due.refused(x, "turn(-1, 0, 0)", x.turn(-1, 0, 0), -1, 1);
    }

    private static void chartsAreRefused(TurtleBack x) {
        Due.refused(x, "ways(-1, 0, 0)", x.ways(-1, 0, 0), -1, 1);
        Due.refused(x, "may(-1)", x.may(-1), -1, 1);
        Due.refused(x, "span(-1, 0)", x.span(-1, 0), -1, 1);
        Due.refused(x, "seen(-1, 0, 0)", x.seen(-1, 0, 0), -1, 1);
        Due.refused(x, "fits()", x.fits(), -1, 1);
        Due.refused(x, "was(-1, 0)", x.was(-1, 0), -1, 1);
        Due.refused(x, "save(-1)", x.save(-1), -1, 1);
        Due.refused(x, "saved(-1)", x.saved(-1), -1, 1);
        Due.refused(x, "must()", x.must(), -1, 1);
        Due.refused(x, "shelter()", x.shelter(), -1, 1);
        Due.refused(x, "image()", x.image(), -1, 1);
        Due.refused(x, "restore(0)", x.restore(0), 1);
    }

    private static void feedHasRoomFor900Bytes() {
        TurtleBack x = new TurtleBack();
        for (int i = 1; i <= 45; i++) Due.is("feed " + i, x.feed(0, 0, 0, 0, 0), 20 * i);
        Due.is("feed 46", x.feed(0, 0, 0, 0, 0), -1);
        Due.is("bytes", x.size(9), 900);
        Due.is("feed 47", x.feed(0, 0, 0, 0, 0), -1);
        Due.is("no trouble is told of feed", x.trouble(), 0);
        Due.refused(x, "beast(901)", x.beast(901), -1, 2);
        Due.is("feed 48", x.feed(0, 0, 0, 0, 0), -1);
        Due.is("the trouble ahead of feed", x.trouble(), 2);
    }

    private static void feedPutsTheHighestByteFirst() {
        TurtleBack x = new TurtleBack();
        x.feed(0x20202020, 0x2020207f, 0x20202020, 0x20202020, 0x20202020);
        Due.is("beast(20)", x.beast(20), -1);
        Due.is("the byte that begins no token", x.where(), 7);
        x.feed(0x20202020, 0x20202020, 0x20ff2020, 0x20202020, 0x80000000);
        Due.is("beast(20)", x.beast(20), -1);
        Due.is("the byte that begins no token", x.where(), 9);
        x.feed(0x20202020, 0x20202020, 0x20202020, 0x20202020, 0x3b202020);
        Due.is("beast(20)", x.beast(20), -1);
        Due.is("a sign with which no beast begins", x.where(), 16);
    }

    private static void beastReadsTheFirstBytes() {
        TurtleBack x = new TurtleBack();
        Due.feed(x, WHOLE + "!!");
        int bytes = x.size(9);
        Due.refused(x, "beast(-1)", x.beast(-1), -1, 2);
        Due.refused(x, "beast(MIN)", x.beast(Integer.MIN_VALUE), -1, 2);
        Due.refused(x, "beast(bytes + 1)", x.beast(bytes + 1), -1, 2);
        Due.is("the tape stays", x.size(9), bytes);
        Due.is("no fault yet", x.fault(), 0);
        Due.is("no place", x.where(), -1);
        Due.is("beast", x.beast(WHOLE.length()), 1);
        Due.is("trouble", x.trouble(), 0);
        Due.is("the tape is empty", x.size(9), 0);
        Due.is("fault", x.fault(), 0);
        Due.refused(x, "beast(1)", x.beast(1), -1, 2);
    }

    private static void aFaultLeavesTheBeast() {
        TurtleBack x = Due.told(Due.PLAIN);
        x.days(2);
        x.tie(0, true);
        x.image();
        x.seen(0, 1, 1);
        Due.feed(x, SCUTE + "!");
        Due.refused(x, "beast", x.beast(23), -1, 4);
        Due.is("the tape is empty", x.size(9), 0);
        Due.is("fault", x.fault(), 1);
        Due.is("scutes", x.size(0), 3);
        Due.is("days", x.size(7), 2);
        Due.is("seen", x.size(10), 1);
        Due.is("images", x.size(11), 1);
        Due.is("acts", x.size(12), 1);
        Due.refused(x, "beast(1)", x.beast(1), -1, 2);
        Due.is("the fault of the latest that wasn't refused by 2", x.fault(), 1);
        Due.is("no place by 2", x.where(), -1);
    }

    private static void aBeastBeginsAnew() {
        TurtleBack x = Due.told(Due.PLAIN + ";isle near at 5,4 from 1 to 1 buys 1;moult right day 4");
        x.seed(1);
        x.tie(0, true);
        x.move(0, 0);
        x.days(5);
        x.scrape(0);
        x.tie(0, false);
        x.image();
        x.seen(0, 1, 1);
        x.undo();
        int[] before = {5, 1, 1, 1};
        int[] got = {x.size(7), x.size(10), x.size(11), x.size(12)};
        for (int i = 0; i < before.length; i++) Due.is("ahead of a new beast, " + i, got[i], before[i]);
        Due.is("a house is tied", x.house(0, 1), 1);
        Due.is("families are lost", x.family(0, 0) + x.family(1, 0), 2);
        Due.is("a scute is gone", x.scute(2, 0), 1);
        Due.is("beast", Due.tell(x, WHOLE + ";weed at 0, 0"), 1);
        int[] sizes = {1, 0, 0, 0, 1, 0, 0, 0, 0, 0, 0, 0, 0};
        for (int i = 0; i < sizes.length; i++) Due.is("size(" + i + ")", x.size(i), sizes[i]);
        int[] now = {1, 1, 7, 0, 0, 0, 0, 0};
        for (int i = 0; i < now.length; i++) Due.is("now(" + i + ")", x.now(i), now[i]);
        Due.is("pleased", x.pleased(), 0);
        Due.is("barnacles", x.scute(0, 2), 0);
        Due.refused(x, "log(1, 0)", x.log(1, 0), -1, 1);
        Due.refused(x, "restore(0)", x.restore(0), 1);
        Due.is("the first again", Due.tell(x, Due.PLAIN), 3);
        Due.is("not tied", x.house(0, 1), 0);
        Due.is("there", x.house(1, 0), 0);
        for (int f = 0; f < 2; f++) {
            Due.is("there", x.family(f, 0), 0);
            Due.is("at home", x.family(f, 1), 1 + f);
            Due.is("nothing is gone", x.scute(1 + f, 0), 0);
            Due.is("no barnacles", x.scute(1 + f, 2), 0);
        }
    }

    /** What an isle bought, and whom it claimed, goes with the beast. */
    private static void islesBeginAnew() {
        String text = LAW.replace("dives 1 calm 1", "dives 9 calm 0") + ";begins at 5,5 heads 0;" + SCUTE
                + ";isle i at 5,4 from 1 to 9 buys 3";
        TurtleBack x = Due.told(text);
        for (int round = 0; round < 2; round++) {
            Due.is("nothing bought", x.now(6), 0);
            Due.is("not claimed", x.now(7), 0);
            x.days(3);
            Due.is("bought", x.now(6), 1);
            Due.is("claimed", x.now(7), 1);
            Due.is("COINS", x.now(4), 3);
            Due.tell(x, text);
        }
    }

    /** A text, its fault, its place. */
    private static void fault(String text, int fault, int place) {
        TurtleBack x = new TurtleBack();
        Due.is("beast of '" + text + "'", Due.tell(x, text), -1);
        Due.is("trouble of '" + text + "'", x.trouble(), 4);
        Due.is("fault of '" + text + "'", x.fault(), fault);
        Due.is("place of '" + text + "'", x.where(), place);
        Due.is("place of '" + text + "' once more", x.where(), place);
        x.size(0);
        x.feed(0, 0, 0, 0, 0);
        Due.is("place of '" + text + "' behind calls that can't be refused", x.where(), place);
        x.list();
        Due.is("no place of '" + text + "' behind another call", x.where(), -1);
        Due.is("fault of '" + text + "' still", x.fault(), fault);
    }

    private static void fine(String text) {
        TurtleBack x = new TurtleBack();
        Due.is("beast of '" + text + "'", Due.tell(x, text) > 0, true);
        Due.is("fault of '" + text + "'", x.fault(), 0);
        Due.is("place of '" + text + "'", x.where(), -1);
    }

    private static void faultsOfForm() {
        fault("", 1, 0);
        fault("   ", 1, 3);
        fault("Law", 1, 0);
        fault("laws", 1, 0);
        fault("keel", 1, 0);
        fault("7", 1, 0);
        fault(";" + WHOLE, 1, 0);
        fault(WHOLE + ";", 1, WHOLE.length() + 1);
        fault(WHOLE + " ; ", 1, WHOLE.length() + 3);
        fault(WHOLE + ";;", 1, WHOLE.length() + 1);
        fault(WHOLE + " 9", 1, WHOLE.length() + 1);
        fault(WHOLE + " law", 1, WHOLE.length() + 1);
        fault(WHOLE + ",", 1, WHOLE.length());
        fault(WHOLE + " ?", 1, WHOLE.length() + 1);
        fault("weed at 1.1", 1, 9);
        fault("weed at 1,\t1", 1, 10);
        fault("weed\nat 1,1", 1, 4);
        fault("weed at 0001,1", 1, 8);
        fault("weed at 1234567890123456789012345,1", 1, 8);
        fault("weed at 1,1 1", 1, 12);
        fault("weed at 1;1", 1, 9);
        fault("weed at a,1", 1, 8);
        fault("scute abcdefghi at 1,1 holds 9", 1, 6);
        fault("scute abcdefghijklmnopqrstuvwxyzabcdefghijklmnopqrstuvwxyz", 1, 6);
        fault("scute 1 at 1,1 holds 9", 1, 6);
        fault("scute A at 1,1 holds 9", 1, 6);
        fault("scute a, at 1,1 holds 9", 1, 7);
        fault("scute a at 1,1 hold 9", 1, 15);
        fault("scute a\u00e9 at", 1, 7);
        for (String word : "law begins scute house family field weed isle moult young".split(" ")) {
            fault("scute " + word + " at 1,1 holds 9", 1, 6);
            fault(SCUTE + ";field on " + word, 1, 32);
            fault(SCUTE + ";moult " + word, 1, 29);
        }
    }

    private static final String[] LINES = {
        LAW, BEGINS, SCUTE, "house h on a weighs 1 ties 1 worth 1", "family f on a weighs 1", "field on a itch 1",
        "weed at 1 , 1", "isle i at 1 , 1 from 1 to 1 buys 1", "moult a day 1", "young a day 1",
    };

    /** A line that ends too early lacks its next token at the end; one that goes wrong, at the token. */
    private static void eachTokenOfALineIsNeeded() {
        String ahead = LAW + ";" + BEGINS + ";scute z at 1,1 holds 9;";
        for (String line : LINES) {
            String before = line == LAW ? "" : line == BEGINS ? LAW + ";" : line == SCUTE ? ahead : ahead + SCUTE + ";";
            for (int i = 0; i < line.length(); i++) {
                if (line.charAt(i) != ' ') continue;
                fault(before + line.substring(0, i), 1, before.length() + i);
                fault(before + line.substring(0, i) + " !", 1, before.length() + i + 1);
                fault(before + line.substring(0, i) + ";" + line.substring(i), 1, before.length() + i);
            }
        }
    }

    private static void blanksPartTokensAlone() {
        fine(WHOLE);
        fine("  " + WHOLE.replace(" ", "   ") + "   ");
        fine(WHOLE.replace(";", " ; ").replace(",", " , "));
        fine("law keel1mid1feels1dives1calm1hungry1;begins at1,1heads7;scute a at1,1holds9");
        fine(WHOLE.replace("holds 9", "holds 009"));
        fine(SCUTE + ";" + BEGINS + ";" + LAW);
        fine(WHOLE + ";scute at at 1,1 holds 1;scute keel at 1,1 holds 1;house on on at weighs 1 ties 1 worth 1"
                + ";family day on keel weighs 1;isle holds at 1,1 from 1 to 1 buys 1;field on at itch 1");
        fine(WHOLE + ";scute abcdefgh at 0,0 holds 99");
    }

    private static void faultsOfNames() {
        fault("house h on a", 2, 11);
        fault("house h on h", 2, 11);
        fault("family f on f", 2, 12);
        fault("field on a", 2, 9);
        fault("moult a", 2, 6);
        fault("young a", 2, 6);
        fault(SCUTE + ";field on b", 2, 32);
        fault(SCUTE + ";house h on a weighs 1 ties 1 worth 1;field on h", 2, 69);
        fault(SCUTE + ";isle i at 1,1 from 1 to 1 buys 1;moult i", 2, 62);
        fault(SCUTE + ";family f on a weighs 1;family g on f", 2, 58);
        fault("field on a itch 1;" + SCUTE, 2, 9);
        fault(SCUTE + ";" + SCUTE, 3, 29);
        fault(SCUTE + ";house a", 3, 29);
        fault(SCUTE + ";family a", 3, 30);
        fault(SCUTE + ";isle a", 3, 28);
        fault("isle a at 1,1 from 1 to 1 buys 1;scute a", 3, 39);
        fault(LAW + ";" + LAW, 3, LAW.length() + 1);
        fault(LAW + "; law!", 3, LAW.length() + 2);
        fault(BEGINS + ";begins", 3, BEGINS.length() + 1);
        fault(SCUTE + ";moult a day 1;moult a", 3, 43);
        fault(SCUTE + ";moult a day 1;young a", 3, 43);
        fault(SCUTE + ";young a day 1;moult a", 3, 43);
    }

    /** Of each whole the bounds are let, what is beside them is not. */
    private static void faultsOfBounds() {
        String[] slots = {
            "law keel #|0|9", "law keel 1 mid #|0|9", "law keel 1 mid 1 feels #|1|99",
            "law keel 1 mid 1 feels 1 dives #|1|30", "law keel 1 mid 1 feels 1 dives 1 calm #|0|99",
            "law keel 1 mid 1 feels 1 dives 1 calm 1 hungry #|1|30",
            "begins at #|0|9", "begins at 1,#|0|9", "begins at 1,1 heads #|0|7",
            "scute b at #|0|9", "scute b at 1,#|0|9", "scute b at 1,1 holds #|1|99",
            "house h on a weighs #|1|30", "house h on a weighs 1 ties #|1|60",
            "house h on a weighs 1 ties 1 worth #|1|99", "family f on a weighs #|1|30",
            "field on a itch #|1|9", "weed at #|0|9", "weed at 1,#|0|9",
            "isle i at #|0|9", "isle i at 1,#|0|9", "isle i at 1,1 from #|1|99", "isle i at 1,1 from 1 to #|1|99",
            "isle i at 1,1 from 50 to #|50|99", "isle i at 1,1 from 1 to 1 buys #|1|99",
            "moult a day #|1|99", "young a day #|1|99",
        };
        for (String slot : slots) {
            String[] parts = slot.split("\\|");
            String text = SCUTE + ";" + parts[0];
            int place = text.length() - 1;
            int low = Integer.parseInt(parts[1]);
            int high = Integer.parseInt(parts[2]);
            if (low > 0) fault(text.replace("#", "" + (low - 1)), 4, place);
            fault(text.replace("#", "" + (high + 1)), 4, place);
            fault(text.replace("#", "999") + "!", 4, place);
            for (int whole : new int[] {low, high}) {
                String let = text.replace("#", "" + whole) + "!";
                fault(let, 1, let.length() - 1);
            }
        }
    }

    private static void faultsOfMany() {
        String[] sorts = {
            "scute # at 1,1 holds 1|7", "house # on a weighs 1 ties 1 worth 1|6", "family # on a weighs 1|4",
            "field on a itch 1|4", "weed at 1,1|4", "isle # at 1,1 from 1 to 1 buys 1|4",
        };
        for (String sort : sorts) {
            String[] parts = sort.split("\\|");
            StringBuilder text = new StringBuilder(WHOLE);
            for (int i = 0; i < Integer.parseInt(parts[1]); i++) {
                text.append(";").append(parts[0].replace("#", "" + (char) ('k' + i)));
            }
            fine(text.toString());
            fault(text + ";" + parts[0].replace("#", "z"), 5, text.length() + 1);
            fault(text + "; " + parts[0].substring(0, parts[0].indexOf(' ')), 5, text.length() + 2);
        }
        String parting = WHOLE + ";scute b at 1,1 holds 1;scute c at 1,1 holds 1;scute d at 1,1 holds 1"
                + ";moult a day 1;young b day 1;moult c day 2";
        fine(parting);
        fault(parting + ";young d day 1", 5, parting.length() + 1);
        fault(parting + ";moult a day 1", 5, parting.length() + 1);
    }

    private static void faultsOfLack() {
        fault(BEGINS + ";" + SCUTE, 6, BEGINS.length() + SCUTE.length() + 1);
        fault(LAW + ";" + SCUTE, 6, LAW.length() + SCUTE.length() + 1);
        fault(LAW + ";" + BEGINS, 6, LAW.length() + BEGINS.length() + 1);
        fault("weed at 1,1", 6, 11);
        fault("weed at 1,1   ", 6, 14);
    }

    private static void theFirstFaultFromTheLeftCounts() {
        fault("weed at 10,!", 4, 8);
        fault("field on a !", 2, 9);
        fault("weed at ! 10", 1, 8);
        fault(SCUTE + ";scute a at 10", 3, 29);
        fault("weed at 1,1;weed at 99", 4, 20);
    }

    public static void main(String[] args) {
        aNewObjectHasNoBeast();
        feedHasRoomFor900Bytes();
        feedPutsTheHighestByteFirst();
        beastReadsTheFirstBytes();
        aFaultLeavesTheBeast();
        aBeastBeginsAnew();
        islesBeginAnew();
        faultsOfForm();
        eachTokenOfALineIsNeeded();
        blanksPartTokensAlone();
        faultsOfNames();
        faultsOfBounds();
        faultsOfMany();
        faultsOfLack();
        theFirstFaultFromTheLeftCounts();
        Due.end();
    }
}
