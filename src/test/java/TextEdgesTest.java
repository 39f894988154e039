/** Terms I, promises 1 to 5: each sentence that names a boundary case, by its own words. */
public final class TextEdgesTest {
    private static final String LAW = "law keel 1 mid 1 feels 1 dives 1 calm 1 hungry 1";
    private static final String BEGINS = "begins at 1,1 heads 7";
    private static final String SCUTE = "scute a at 1,1 holds 9";
    private static final String WHOLE = LAW + ";" + BEGINS + ";" + SCUTE;
    private static final String[] SORT_WORDS = {
        "law", "begins", "scute", "house", "family", "field", "weed", "isle", "moult", "young",
    };

    private static String with(String... lines) {
        return WHOLE + ";" + String.join(";", lines);
    }

    /** A fault at the last token of a text. */
    private static void faultAtLast(String text, int fault) {
        Due.fault(text, fault, Math.max(text.lastIndexOf(' '), Math.max(text.lastIndexOf(';'), text.lastIndexOf(','))) + 1);
    }

    /** What stands there is let: the first fault is behind it. */
    private static void letUpToTheEnd(String text) {
        Due.fault(text + " !", 1, text.length() + 1);
    }

    // ---- the tape

    private static String filled(String text, String last) {
        return text + " ".repeat(900 - text.length() - last.length()) + last;
    }

    private static void theTapeIsFullBy900() {
        Due.by("THE TAPE has 900 bytes");
        TurtleBack x = new TurtleBack();
        Due.feed(x, filled(LAW + ";" + BEGINS + ";scute a at 1,1 holds ", "9"));
        Due.is("bytes", x.size(9), 900);
        Due.is("a beast by the last byte, too", x.beast(900), 1);
        Due.fault(filled(WHOLE, "!"), 1, 899);
        Due.fault(filled(WHOLE, ";"), 1, 900);
        Due.fault(filled(BEGINS + ";" + SCUTE, ""), 6, 900);
        Due.is("empty again", x.size(9), 0);
        for (int i = 1; i <= 45; i++) Due.is("feed " + i, x.feed(0, 0, 0, 0, 0), 20 * i);
        Due.is("feed 46", x.feed(0, 0, 0, 0, 0), -1);
    }

    private static void noneComesIfThereWouldBeMore() {
        Due.by("NONE, and none comes, if there would be more than 900");
        TurtleBack x = new TurtleBack();
        Due.feed(x, filled(WHOLE, ""));
        for (int i = 0; i < 3; i++) {
            Due.is("feed", x.feed(0x21212121, 0x21212121, 0x21212121, 0x21212121, 0x21212121), -1);
            Due.is("bytes", x.size(9), 900);
        }
        Due.is("not one came", x.beast(900), 1);
        Due.is("room again", x.feed(0, 0, 0, 0, 0), 20);
        TurtleBack y = new TurtleBack();
        for (int i = 1; i <= 44; i++) y.feed(0, 0, 0, 0, 0);
        Due.is("feed of the last twenty", y.feed(0, 0, 0, 0, 0), 900);
        Due.is("feed of twenty more", y.feed(0, 0, 0, 0, 0), -1);
    }

    private static void twentyBytesTheHighestFirst() {
        Due.by("Twenty bytes come behind THE TAPE, of each number the highest first: how many it has");
        for (int i = 0; i < 20; i++) {
            int[] v = {0x20202020, 0x20202020, 0x20202020, 0x20202020, 0x20202020};
            v[i / 4] ^= 0xa0 << 24 - 8 * (i % 4);
            TurtleBack x = new TurtleBack();
            Due.is("feed", x.feed(v[0], v[1], v[2], v[3], v[4]), 20);
            Due.refused(x, "beast(20)", x.beast(20), -1, 4);
            Due.is("the one byte that is no blank", x.where(), i);
        }
        TurtleBack x = new TurtleBack();
        Due.is("feed", x.feed(Integer.MIN_VALUE, Integer.MAX_VALUE, -1, 0, 1), 20);
        Due.is("feed", x.feed(-1, -1, -1, -1, -1), 40);
    }

    // ---- tokens

    private static void onlyBlanksPartTokens() {
        Due.by("blanks, 32, part TOKENS and mean nothing else");
        for (int b = 0; b < 256; b++) {
            if (b == 32 || b >= 'a' && b <= 'z') continue;
            Due.fault("weed" + (char) b + "at 1,1", 1, 4);
            Due.fault((char) b + "weed at 1,1", 1, 0);
            if (b < '0' || b > '9') Due.fault("weed at 1" + (char) b + " !", 1, b == ',' ? 11 : 9);
        }
        Due.fine("   " + WHOLE.replace(" ", "    ").replace(";", "  ;  ").replace(",", "  ,  ") + "   ", 1);
        Due.fine(WHOLE.replace("1 mid", "1mid").replace("at ", "at").replace("1 feels 1", "1feels1"), 1);
        Due.fault("la w", 1, 0);
        Due.fault("weed a t", 1, 5);
        Due.fault("weed at 1 1", 1, 10);
        Due.fault("weedat 1,1", 1, 0);
    }

    private static void wordsOf1To8Letters() {
        Due.by("WORDS of 1 to 8 small letters that stand together");
        Due.fine(with("scute zzzzzzzz at 1,1 holds 9", "field on zzzzzzzz itch 1"), 2);
        Due.fine(with("scute zzzzzzzy at 1,1 holds 9", "scute zzzzzzzz at 1,1 holds 9", "scute zzzzzzz at 1,1 holds 9",
                "scute z at 1,1 holds 9", "scute zz at 1,1 holds 9", "scute aa at 1,1 holds 9"), 7);
        faultAtLast("scute zzzzzzzzz", 1);
        faultAtLast(with("field on zzzzzzzzz"), 1);
        faultAtLast(with("field on aaaaaaaaaaaaaaaaaaaaaaaaaaaaaaaaaaaaa"), 1);
        Due.fault("scute zzzzzzzz9 at", 1, 14);
        Due.fault("scute zzzzzzzZ at", 1, 13);
        Due.fault("youngaaaa", 1, 0);
    }

    private static void wholesOf1To3Digits() {
        Due.by("WHOLES of 1 to 3 digits that do");
        Due.fine(WHOLE.replace("holds 9", "holds 099"), 1);
        Due.fine(WHOLE.replace("1", "001"), 1);
        Due.fine(WHOLE.replace("1", "01"), 1);
        faultAtLast("weed at 0000", 1);
        faultAtLast("weed at 1, 0001", 1);
        faultAtLast("weed at 99999999999999999999999999999999", 1);
        Due.fault("weed at 000 0", 1, 12);
        Due.fault("weed at 001a", 1, 11);
        Due.fault("weed at -1", 1, 8);
    }

    private static void singleOnes() {
        Due.by("single ones of ; ,");
        Due.fault(WHOLE + ";;weed at 1,1", 1, WHOLE.length() + 1);
        Due.fault("weed at 1,,1", 1, 10);
        Due.fault("weed at 1;1", 1, 9);
        Due.fault(WHOLE + ",weed at 1,1", 1, WHOLE.length());
    }

    private static void linesAndWhatPartsThem() {
        Due.by("LINE {; LINE}");
        Due.fine(WHOLE, 1);
        Due.fault("", 1, 0);
        Due.fault(";", 1, 0);
        Due.fault(";" + WHOLE, 1, 0);
        Due.fault(WHOLE + ";", 1, WHOLE.length() + 1);
        Due.fault(WHOLE + " weed at 1,1", 1, WHOLE.length() + 1);
        Due.fine(SCUTE + ";" + BEGINS + ";" + LAW, 1);
    }

    // ---- lines: each whole's bounds

    /** At its # a line lets all wholes from the least to the greatest, and none beside them. */
    private static void bounds(String line, int least, int greatest) {
        String text = WHOLE.replace(LAW, "weed at 1,1").replace(BEGINS, "weed at 1,1") + ";" + line;
        if (least > 0) faultAtLast(text.replace("#", "" + (least - 1)), 4);
        letUpToTheEnd(text.replace("#", "" + least));
        letUpToTheEnd(text.replace("#", "" + (least + greatest) / 2));
        letUpToTheEnd(text.replace("#", "" + greatest));
        faultAtLast(text.replace("#", "" + (greatest + 1)), 4);
        faultAtLast(text.replace("#", "999"), 4);
    }

    private static void boundsOfTheLaw() {
        Due.by("(0 .. 9, 0 .. 9, 1 .. 99, 1 .. 30, 0 .. 99, 1 .. 30)");
        bounds("law keel #", 0, 9);
        bounds("law keel 9 mid #", 0, 9);
        bounds("law keel 0 mid 0 feels #", 1, 99);
        bounds("law keel 0 mid 0 feels 99 dives #", 1, 30);
        bounds("law keel 0 mid 0 feels 1 dives 30 calm #", 0, 99);
        bounds("law keel 0 mid 0 feels 1 dives 1 calm 99 hungry #", 1, 30);
        Due.fine("law keel 0 mid 0 feels 1 dives 1 calm 0 hungry 1;" + BEGINS + ";" + SCUTE, 1);
        Due.fine("law keel 9 mid 9 feels 99 dives 30 calm 99 hungry 30;" + BEGINS + ";" + SCUTE, 1);
        Due.by("or begins at WHOLE, WHOLE heads WHOLE (0 .. 9 each; 0 .. 7)");
        bounds("begins at #", 0, 9);
        bounds("begins at 9,#", 0, 9);
        bounds("begins at 0,0 heads #", 0, 7);
        Due.fine(LAW + ";begins at 0,0 heads 0;" + SCUTE, 1);
        Due.fine(LAW + ";begins at 9,9 heads 7;" + SCUTE, 1);
    }

    private static void boundsOfScutesAndThings() {
        Due.by("scute NAME at WHOLE, WHOLE holds WHOLE (0 .. 9 each; 1 .. 99; up to 8)");
        bounds("scute b at #", 0, 9);
        bounds("scute b at 9,#", 0, 9);
        bounds("scute b at 0,0 holds #", 1, 99);
        Due.by("or house NAME on SCUTE weighs WHOLE ties WHOLE worth WHOLE (1 .. 30, 1 .. 60, 1 .. 99; up to 6)");
        bounds("house h on a weighs #", 1, 30);
        bounds("house h on a weighs 30 ties #", 1, 60);
        bounds("house h on a weighs 1 ties 60 worth #", 1, 99);
        Due.by("or family NAME on SCUTE weighs WHOLE (1 .. 30; up to 4)");
        bounds("family f on a weighs #", 1, 30);
        Due.by("field on SCUTE itch WHOLE (1 .. 9; up to 4)");
        bounds("field on a itch #", 1, 9);
    }

    private static void boundsOfTheSeaAndOfDays() {
        Due.by("or weed at WHOLE, WHOLE (0 .. 9 each; up to 4)");
        bounds("weed at #", 0, 9);
        bounds("weed at 9,#", 0, 9);
        Due.by("(0 .. 9 each; DAYS 1 .. 99, the latter not below the former; 1 .. 99; up to 4)");
        bounds("isle i at #", 0, 9);
        bounds("isle i at 9,#", 0, 9);
        bounds("isle i at 0,0 from #", 1, 99);
        bounds("isle i at 0,0 from 1 to #", 1, 99);
        bounds("isle i at 0,0 from 2 to #", 2, 99);
        bounds("isle i at 0,0 from 98 to #", 98, 99);
        bounds("isle i at 0,0 from 99 to #", 99, 99);
        bounds("isle i at 0,0 from 9 to 9 buys #", 1, 99);
        Due.fault("isle i at 0,0 from 9 to 9 buys 1;isle j at 0,0 from 1 to 0", 4, 57);
        letUpToTheEnd("isle i at 0,0 from 9 to 9 buys 1;isle j at 0,0 from 1 to 1");
        Due.by("moult SCUTE day WHOLE, or young SCUTE day WHOLE (1 .. 99;");
        bounds("moult a day #", 1, 99);
        bounds("young a day #", 1, 99);
    }

    // ---- lines: how many, and names

    /** So many lines of a sort are let; of one more its first word is at fault. */
    private static void roomFor(String sentence, String line, int many) {
        Due.by(sentence);
        StringBuilder text = new StringBuilder(LAW + ";" + BEGINS);
        if (!line.startsWith("scute")) text.append(";").append(SCUTE);
        for (int i = 0; i < many; i++) {
            text.append(";").append(line.replace("#", "" + (char) ('k' + i)));
        }
        Due.fine(text.toString(), line.startsWith("scute") ? many : 1);
        String word = line.substring(0, line.indexOf(' '));
        Due.fault(text + ";" + line.replace("#", "z"), 5, text.length() + 1);
        Due.fault(text + ";" + word, 5, text.length() + 1);
        Due.fault(text + "; " + word + "!", 5, text.length() + 2);
    }

    private static void upToSoMany() {
        roomFor("1 .. 99; up to 8)", "scute # at 1,1 holds 1", 8);
        roomFor("1 .. 99; up to 6)", "house # on a weighs 1 ties 1 worth 1", 6);
        roomFor("(1 .. 30; up to 4)", "family # on a weighs 1", 4);
        roomFor("(1 .. 9; up to 4)", "field on a itch 1", 4);
        roomFor("(0 .. 9 each; up to 4)", "weed at 1,1", 4);
        roomFor("the latter not below the former; 1 .. 99; up to 4)", "isle # at 1,1 from 1 to 1 buys 1", 4);
    }

    private static void threeThatMoultOrLeave() {
        Due.by("up to 3 of both together; each SCUTE once");
        String scutes = with("scute b at 1,1 holds 9", "scute c at 1,1 holds 9", "scute d at 1,1 holds 9");
        for (int bits = 0; bits < 16; bits++) {
            StringBuilder text = new StringBuilder(scutes);
            for (int i = 0; i < 3; i++) {
                text.append(";").append((bits >> i & 1) == 0 ? "moult " : "young ").append((char) ('a' + i)).append(" day 1");
            }
            Due.fine(text.toString(), 4);
            String fourth = (bits >> 3 & 1) == 0 ? "moult" : "young";
            Due.fault(text + ";" + fourth + " d day 1", 5, text.length() + 1);
            Due.fault(text + ";" + fourth + " a day 1", 5, text.length() + 1);
            String first = (bits & 1) == 0 ? "moult" : "young";
            faultAtLast(scutes + ";" + first + " a day 1;" + fourth + " a", 3);
            faultAtLast(scutes + ";" + first + " a day 1;" + fourth + " b day 1;moult a", 3);
        }
    }

    private static void namesButTheTenWords() {
        Due.by("NAMES are WORDS but law, begins, scute, house, family, field, weed, isle, moult, young");
        for (String word : SORT_WORDS) {
            for (String sort : new String[] {"scute ", "house ", "family ", "isle "}) faultAtLast(WHOLE + ";" + sort + word, 1);
            for (String sort : new String[] {"house h on ", "family f on ", "field on ", "moult ", "young "}) {
                faultAtLast(WHOLE + ";" + sort + word, 1);
            }
            String longer = word.length() < 8 ? word + "s" : word.substring(1);
            String shorter = word.substring(1);
            Due.fine(with("scute " + longer + " at 1,1 holds 9", "scute " + shorter + " at 1,1 holds 9",
                    "field on " + longer + " itch 1", "moult " + shorter + " day 1"), 3);
        }
        for (String word : "keel mid feels dives calm hungry at heads holds on weighs ties worth itch from to buys day".split(" ")) {
            Due.fine(with("scute " + word + " at 1,1 holds 9", "house h on " + word + " weighs 1 ties 1 worth 1"), 2);
        }
        for (String none : new String[] {"1", ";", ",", "?", "A"}) {
            for (String sort : new String[] {"scute ", "house h on ", "moult "}) {
                Due.fault(WHOLE + ";" + sort + none, 1, WHOLE.length() + 1 + sort.length());
            }
        }
    }

    private static void eachNameOnceAheadOfItsUse() {
        Due.by("each told once, ahead of its use");
        String[] told = {"scute x at 1,1 holds 9", "house x on a weighs 1 ties 1 worth 1", "family x on a weighs 1",
            "isle x at 1,1 from 1 to 1 buys 1"};
        for (String first : told) {
            for (String second : told) faultAtLast(with(first, second.substring(0, second.indexOf(' ')) + " x"), 3);
        }
        faultAtLast("house h on a", 2);
        faultAtLast("field on a", 2);
        faultAtLast("moult a", 2);
        faultAtLast(with("moult b"), 2);
        faultAtLast(with("family f on f"), 2);
        Due.fault("field on a itch 1;" + WHOLE, 2, 9);
        Due.by("or is of another sort than must stand there; at it");
        for (int i = 1; i < told.length; i++) {
            for (String use : new String[] {"house h on x", "family f on x", "field on x", "moult x", "young x"}) {
                faultAtLast(with(told[i], use), 2);
            }
        }
    }

    /** 22 names and 34 lines: all there is room for. */
    private static void aFullBeast() {
        Due.by("or house NAME on SCUTE weighs WHOLE ties WHOLE worth WHOLE");
        StringBuilder text = new StringBuilder("law keel1mid1feels1dives1calm1hungry1;begins at1,1heads7");
        for (char c = 'a'; c <= 'h'; c++) text.append(";scute ").append(c).append(" at1,1holds9");
        for (char c = 'i'; c <= 'n'; c++) text.append(";house ").append(c).append(" on h weighs1ties1worth1");
        for (char c = 'o'; c <= 'r'; c++) text.append(";family ").append(c).append(" on h weighs1");
        for (char c = 's'; c <= 'v'; c++) text.append(";isle ").append(c).append(" at1,1from1to1buys1");
        for (int i = 0; i < 4; i++) text.append(";weed at1,1");
        for (int i = 0; i < 2; i++) text.append(";field on h itch1");
        Due.is("it goes onto the tape: " + text.length(), text.length() <= 860, true);
        TurtleBack x = new TurtleBack();
        Due.is("scutes", Due.tell(x, text.toString()), 8);
        int[] sizes = {8, 6, 4, 2, 4, 4, 0};
        for (int i = 0; i < sizes.length; i++) Due.is("size(" + i + ")", x.size(i), sizes[i]);
        Due.is("house 5, told 14th", x.house(5, 0), 0);
        Due.is("family 3, told 18th", x.family(3, 1), 7);
        Due.is("no house 6", x.house(6, 0), -1);
        Due.fault(text + ";moult v", 2, text.length() + 7);
        Due.fault(text + ";moult h day!", 1, text.length() + 12);
    }

    // ---- faults

    private static void theFirstFromTheLeft() {
        Due.by("FAULTS, the first that is met from the left, of one place the least number");
        Due.fault("weed at 10,!", 4, 8);
        Due.fault("weed at 1,!;weed at 10", 1, 10);
        Due.fault("field on b !;" + SCUTE + ";" + SCUTE, 2, 9);
        Due.fault(SCUTE + ";scute a at 10,10", 3, SCUTE.length() + 7);
        Due.fault(SCUTE + ";weed at 99;law law", 4, SCUTE.length() + 9);
        Due.fault("weed at 1,1;weed at 1,1;weed at 1,1;weed at 1,1;weed!", 5, 48);
        Due.fault(LAW + ";law", 3, LAW.length() + 1);
        Due.fault(LAW, 6, LAW.length());
        Due.fault(LAW + ";", 1, LAW.length() + 1);
        Due.fault(LAW + " mid", 1, LAW.length() + 1);
        Due.fault("weed at 9999", 1, 8);
        Due.fault("field on abcdefghi", 1, 9);
        Due.by("1 FORM: the first byte that begins no TOKEN (of more letters, digits that stand together: the first of them)");
        Due.fault("weed at 1,1;weeds at", 1, 12);
        Due.fault("weed at 1,1;weed at 1234", 1, 20);
        Due.fault("weed at 1,1;abcdefghijkl", 1, 12);
        Due.by("or TOKEN with which no BEAST goes on (the end: its place)");
        for (int i = 1; i < SCUTE.length(); i++) {
            if (SCUTE.charAt(i) == ' ') Due.fault(SCUTE.substring(0, i), 1, i);
        }
        Due.fault("     ", 1, 5);
        Due.fault("weed at 1,1;  ", 1, 14);
    }

    private static void toldAgain() {
        Due.by("a second law, begins; at that WORD");
        Due.fault(LAW + ";law", 3, LAW.length() + 1);
        Due.fault(WHOLE + "; " + LAW, 3, WHOLE.length() + 2);
        Due.fault(BEGINS + ";begins", 3, BEGINS.length() + 1);
        Due.fault(WHOLE + ";" + BEGINS, 3, WHOLE.length() + 1);
        Due.by("5 MANY: a LINE more of its sort than there is room for, at its first WORD");
        Due.fault(with("weed at 1,1", "weed at 1,1", "weed at 1,1", "weed at 1,1", "weed"), 5, WHOLE.length() + 49);
        Due.by("6 LACKS, at the end: no law, no begins, no scute");
        Due.fault(BEGINS + ";" + SCUTE, 6, BEGINS.length() + SCUTE.length() + 1);
        Due.fault(LAW + ";" + SCUTE, 6, LAW.length() + SCUTE.length() + 1);
        Due.fault(LAW + ";" + BEGINS, 6, LAW.length() + BEGINS.length() + 1);
        Due.fault("weed at 1,1   ", 6, 14);
    }

    // ---- promises 1 to 5

    private static void theFirstNBytes() {
        Due.by("The first n bytes of THE TAPE (it is empty then) are the BEAST from now on");
        TurtleBack x = new TurtleBack();
        Due.feed(x, WHOLE.replace("holds 9", "holds 99") + "!");
        Due.is("but the last digit", x.beast(WHOLE.length()), 1);
        Due.is("empty", x.size(9), 0);
        Due.refused(x, "none is left", x.beast(1), -1, 2);
        Due.refused(x, "the first none of none", x.beast(0), -1, 4);
        Due.is("FORM at the end", x.fault() * 10 + x.where(), 10);
        Due.feed(x, WHOLE);
        Due.refused(x, "the first none", x.beast(0), -1, 4);
        Due.is("empty", x.size(9), 0);
        Due.feed(x, WHOLE);
        Due.refused(x, "all but the last", x.beast(WHOLE.length() - 1), -1, 4);
        Due.is("at the end of what was read", x.where(), WHOLE.length() - 1);
        Due.feed(x, WHOLE);
        Due.is("blanks behind it", x.beast(x.size(9)), 1);
    }

    private static void beastRefusedBy2() {
        Due.by("NONE: 2 (THE TAPE stays); 4 (the BEAST stays)");
        TurtleBack x = new TurtleBack();
        Due.refused(x, "beast(1) of an empty tape", x.beast(1), -1, 2);
        Due.feed(x, Due.PLAIN);
        int bytes = x.size(9);
        for (int n : new int[] {-1, Integer.MIN_VALUE, bytes + 1, 901, Integer.MAX_VALUE}) {
            Due.refused(x, "beast(" + n + ")", x.beast(n), -1, 2);
            Due.is("its place", x.where(), -1);
            Due.is("bytes", x.size(9), bytes);
            Due.is("no beast", x.size(0), 0);
        }
        Due.is("all that was fed", x.beast(bytes), 3);
        x.days(2);
        x.move(0, 0);
        x.image();
        x.seen(0, 0, 0);
        String before = RefusalsTest.stateOf(x);
        Due.feed(x, SCUTE + ";house h on b");
        Due.refused(x, "beast", x.beast(SCUTE.length() + 13), -1, 4);
        Due.is("the BEAST stays", RefusalsTest.stateOf(x).equals(before), true);
        Due.is("its act, too", x.undo(), true);
        Due.is("its image, too", x.restore(0), true);
    }

    private static void faultAndWhere() {
        Due.by("The FAULT of the latest beast() not refused by 2; 0 without one");
        TurtleBack x = new TurtleBack();
        Due.is("none yet", x.fault(), 0);
        x.beast(9);
        Due.is("none by 2", x.fault(), 0);
        Due.tell(x, "weed at 10");
        Due.is("BOUNDS", x.fault(), 4);
        x.beast(9);
        Due.is("BOUNDS still", x.fault(), 4);
        Due.tell(x, WHOLE);
        Due.is("none", x.fault(), 0);
        Due.tell(x, "?");
        Due.is("FORM", x.fault(), 1);
        Due.by("Its place, if the latest call that may be refused was by 4; NONE else");
        Due.is("place 0", x.where(), 0);
        Due.is("place 0 still", x.where(), 0);
        x.beast(9);
        Due.is("by 2", x.where(), -1);
        Due.tell(x, WHOLE);
        Due.is("by none", x.where(), -1);
        Due.is("none ahead of all", new TurtleBack().where(), -1);
    }

    public static void main(String[] args) {
        theTapeIsFullBy900();
        noneComesIfThereWouldBeMore();
        twentyBytesTheHighestFirst();
        onlyBlanksPartTokens();
        wordsOf1To8Letters();
        wholesOf1To3Digits();
        singleOnes();
        linesAndWhatPartsThem();
        boundsOfTheLaw();
        boundsOfScutesAndThings();
        boundsOfTheSeaAndOfDays();
        upToSoMany();
        threeThatMoultOrLeave();
        namesButTheTenWords();
        eachNameOnceAheadOfItsUse();
        aFullBeast();
        theFirstFromTheLeft();
        toldAgain();
        theFirstNBytes();
        beastRefusedBy2();
        faultAndWhere();
        Due.end();
    }
}
