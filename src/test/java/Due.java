import java.io.IOException;
import java.nio.file.Files;
import java.nio.file.Path;
import java.util.NoSuchElementException;

/** What the tests share: answers that are due, the document's words they are due by, and beasts from a text. */
final class Due {
    /** Two scutes beside the keel and one on it, a house and a family on each side. */
    static final String PLAIN = "law keel 1 mid 1 feels 10 dives 3 calm 5 hungry 4;begins at 5,5 heads 0;"
            + "scute head at 1,0 holds 30;scute left at 0,1 holds 30;scute right at 2,1 holds 30;"
            + "house hut on left weighs 10 ties 20 worth 30;house barn on right weighs 10 ties 15 worth 20;"
            + "family ann on left weighs 5;family bob on right weighs 5;"
            + "field on head itch 1;weed at 5,2;isle rock at 5,3 from 1 to 9 buys 7";

    private static int wrong = 0;
    private static int all = 0;
    private static final String NOT_THERE = "(not there)";
    private static String document = "";
    private static String words = "";

    private Due() {
    }

    /** The words of the document that the answers from here on are due by; told again with each that isn't. */
    static void by(String sentence) {
        words = "";
        boolean isSaid = document().equals(NOT_THERE) || document().contains(sentence);
        is("the document says '" + sentence + "'", isSaid, true);
        words = "[" + sentence + "] ";
    }

    /** The answers are due even where nobody has the document at hand. */
    private static String document() {
        if (!document.isEmpty()) return document;
        try {
            document = Files.readString(Path.of("../shared/DOC.md")).replaceAll("\\s+", " ");
        } catch (IOException e) {
            document = NOT_THERE;
        }
        return document;
    }

    static void is(String what, long got, long want) {
        all++;
        if (got == want) return;
        wrong++;
        System.out.println(words + what + ": answered " + got + ", due is " + want);
    }

    static void is(String what, boolean got, boolean want) {
        is(what, got ? 1 : 0, want ? 1 : 0);
    }

    /** A call that is refused by a number of trouble. */
    static void refused(TurtleBack x, String what, long got, long want, int trouble) {
        is(what, got, want);
        is(what + ", its trouble", x.trouble(), trouble);
    }

    static void refused(TurtleBack x, String what, boolean got, int trouble) {
        refused(x, what, got ? 1 : 0, 0, trouble);
    }

    /** Feeds a text, filled up by blanks to whole twenties. */
    static void feed(TurtleBack x, String text) {
        for (int from = 0; from < text.length(); from += 20) {
            x.feed(four(text, from), four(text, from + 4), four(text, from + 8), four(text, from + 12),
                    four(text, from + 16));
        }
    }

    static int four(String text, int from) {
        int number = 0;
        for (int i = from; i < from + 4; i++) number = number << 8 | (i < text.length() ? text.charAt(i) & 255 : 32);
        return number;
    }

    static int tell(TurtleBack x, String text) {
        feed(x, text);
        return x.beast(text.length());
    }

    static TurtleBack told(String text) {
        TurtleBack x = new TurtleBack();
        int scutes = tell(x, text);
        if (scutes < 1) is("a beast from '" + text + "': fault " + x.fault() + " at " + x.where(), scutes, 1);
        return x;
    }

    /** A text whose first fault is due at a place. */
    static void fault(String text, int fault, int place) {
        TurtleBack x = new TurtleBack();
        refused(x, "beast of '" + text + "'", tell(x, text), -1, 4);
        is("fault of '" + text + "'", x.fault(), fault);
        is("place of '" + text + "'", x.where(), place);
    }

    /** A text that is a beast of so many scutes. */
    static void fine(String text, int scutes) {
        TurtleBack x = new TurtleBack();
        is("beast of '" + text + "'", tell(x, text), scutes);
        is("trouble of '" + text + "'", x.trouble(), 0);
        is("fault of '" + text + "'", x.fault(), 0);
        is("place of '" + text + "'", x.where(), -1);
    }

    /** The law, the beginning, and what else is told. */
    static TurtleBack turtle(String law, String begins, String rest) {
        return told("law " + law + ";begins " + begins + ";" + rest);
    }

    /** The house, or -1 for NoSuchElementException. */
    static int led(TurtleBack x, int i) {
        try {
            return x.led(i);
        } catch (NoSuchElementException e) {
            return -1;
        }
    }

    static void end() {
        System.out.println(wrong == 0 ? "all " + all + " answers are as due" : wrong + " answers are not as due");
        if (wrong != 0) System.exit(1);
    }
}
