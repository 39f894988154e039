import java.util.ArrayList;
import java.util.Collections;
import java.util.List;
import java.util.NoSuchElementException;

/** Many runs of calls, drawn by a rule of its own, against the model; also that nothing is thrown that mustn't be. */
public final class RandomTest {
    private static long draw = 12345;
    private static int wrong = 0;
    private static int calls = 0;
    /** Of one object: it is used for 512 calls at most. */
    private static int ofOne = 0;
    private static final int[] told = new int[7];

    private static int below(int n) {
        draw = draw * 6364136223846793005L + 1442695040888963407L;
        return (int) ((draw >>> 33) % n);
    }

    private static int between(int low, int high) {
        return low + below(high - low + 1);
    }

    /** Mostly within the bounds, at times beside them, rarely far away. */
    private static int about(int low, int high) {
        int kind = below(40);
        if (kind == 0) return low - 1;
        if (kind == 1) return high + 1;
        if (kind == 2) return below(2) == 0 ? Integer.MIN_VALUE : Integer.MAX_VALUE;
        if (kind == 3) return below(2) == 0 ? low : high;
        return between(low, high);
    }

    private static String blanks() {
        return " ".repeat(below(8) == 0 ? between(0, 3) : 1);
    }

    private static String beastText() {
        List<String> lines = new ArrayList<>();
        int scutes = between(1, 8);
        lines.add("law keel " + between(0, 9) + " mid " + between(0, 9) + " feels "
                + (below(2) == 0 ? between(1, 99) : between(20, 40)) + " dives " + between(1, 30) + " calm "
                + (below(3) == 0 ? 0 : between(0, 99)) + " hungry " + between(1, 30));
        lines.add("begins at " + between(0, 9) + ", " + between(0, 9) + " heads " + between(0, 7));
        for (int i = 0; i < scutes; i++) {
            lines.add("scute s" + name(i) + " at " + between(0, 9) + "," + between(0, 9) + " holds "
                    + (below(2) == 0 ? between(1, 99) : between(20, 60)));
        }
        for (int i = below(7); i > 0; i--) {
            lines.add("house h" + name(i) + " on s" + name(below(scutes)) + " weighs " + between(1, 30) + " ties "
                    + between(1, 60) + " worth " + (below(2) == 0 ? between(1, 9) : between(1, 99)));
        }
        for (int i = below(5); i > 0; i--) {
            lines.add("family f" + name(i) + " on s" + name(below(scutes)) + " weighs " + between(1, 30));
        }
        for (int i = below(5); i > 0; i--) {
            lines.add("field on s" + name(below(scutes)) + " itch " + (below(2) == 0 ? 1 : between(1, 9)));
        }
        for (int i = below(5); i > 0; i--) lines.add("weed at " + between(0, 9) + "," + between(0, 9));
        for (int i = below(5); i > 0; i--) {
            int from = between(1, 30);
            lines.add("isle i" + name(i) + " at " + between(0, 9) + "," + between(0, 9) + " from " + from + " to "
                    + between(from, 99) + " buys " + between(1, 99));
        }
        for (int i = Math.min(below(4), scutes); i > 0; i--) {
            lines.add((below(2) == 0 ? "moult s" : "young s") + name(i - 1) + " day " + between(1, 40));
        }
        if (below(2) == 0) mix(lines, scutes);
        return String.join(";", lines);
    }

    /** Scutes come first, as they are told ahead of their use; all else stands anywhere behind them. */
    private static void mix(List<String> lines, int scutes) {
        lines.add(lines.remove(0));
        lines.add(lines.remove(0));
        for (int i = lines.size() - 1; i > scutes; i--) Collections.swap(lines, i, between(scutes, i));
    }

    private static String name(int i) {
        return "" + (char) ('a' + i);
    }

    private static String broken(String text) {
        StringBuilder t = new StringBuilder(text);
        for (int i = between(1, 2); i > 0; i--) {
            int at = below(t.length());
            String[] lines = t.toString().split(";");
            switch (below(10)) {
                case 0: t.deleteCharAt(at); break;
                case 1: t.insert(at, (char) between(0, 255)); break;
                case 2: t.insert(at, below(2) == 0 ? ";" : ","); break;
                case 3: t.setCharAt(at, (char) between('0', '9')); break;
                case 4: t.setCharAt(at, (char) between('a', 'j')); break;
                case 5: t.insert(at, blanks()); break;
                case 6: t.append(";").append(lines[below(lines.length)]); break;
                case 7: t.setLength(at); break;
                case 8: t = new StringBuilder(without(lines, below(Math.min(3, lines.length)))); break;
                default: t.insert(at, between(0, 1200));
            }
            if (t.length() == 0) t.append(' ');
        }
        return t.toString();
    }

    private static String without(String[] lines, int line) {
        List<String> rest = new ArrayList<>(List.of(lines));
        rest.remove(line);
        return String.join(";", rest);
    }

    private static void due(int run, String call, long got, long want) {
        calls++;
        ofOne++;
        if (got == want) return;
        wrong++;
        if (wrong < 30) System.out.println("run " + run + ": " + call + " answered " + got + ", the model " + want);
    }

    private static void tell(int run, TurtleBack x, Model m, String text) {
        for (int from = 0; from < text.length(); from += 20) {
            int[] v = new int[5];
            for (int i = 0; i < 5; i++) v[i] = Due.four(text, from + 4 * i);
            due(run, "feed", x.feed(v[0], v[1], v[2], v[3], v[4]), m.feed(v[0], v[1], v[2], v[3], v[4]));
        }
        int n = below(20) == 0 ? about(0, text.length()) : text.length();
        due(run, "beast(" + n + ") '" + text + "'", x.beast(n), m.beast(n));
        due(run, "trouble() of '" + text + "'", x.trouble(), m.trouble());
        due(run, "fault() of '" + text + "'", x.fault(), m.fault());
        due(run, "where() of '" + text + "'", x.where(), m.where());
        told[m.fault()]++;
    }

    private static void call(int run, TurtleBack x, Model m) {
        int a = about(0, 9);
        int b = about(0, 9);
        int c = about(0, 12);
        switch (below(44)) {
            case 0: a = about(0, 65536); due(run, "seed(" + a + ")", x.seed(a) ? 1 : 0, m.seed(a) ? 1 : 0); break;
            case 1: case 2: case 3: case 4: a = about(1, below(6) == 0 ? 60 : 6);
                due(run, "days(" + a + ")", x.days(a), m.days(a)); break;
            case 5: case 6: a = about(0, 7); due(run, "now(" + a + ")", x.now(a), m.now(a)); break;
            case 7: due(run, "pleased()", x.pleased(), m.pleased()); break;
            case 8: a = about(0, 200); b = about(0, 1); due(run, "log(" + a + ")", x.log(a, b), m.log(a, b)); break;
            case 9: b = about(0, 1); a = about(0, 5); due(run, "house", x.house(a, b), m.house(a, b)); break;
            case 10: b = about(0, 1); a = about(0, 3); due(run, "family", x.family(a, b), m.family(a, b)); break;
            case 11: b = about(0, 2); a = about(0, 7); due(run, "scute", x.scute(a, b), m.scute(a, b)); break;
            case 12: due(run, "list()", x.list(), m.list()); break;
            case 13: due(run, "pitch()", x.pitch(), m.pitch()); break;
            case 14: due(run, "judge()", x.judge(), m.judge()); break;
            case 15: due(run, "lost()", x.lost(), m.lost()); break;
            case 16: case 17: case 18: a = about(0, 3); b = about(0, 7);
                due(run, "move(" + a + ", " + b + ")", x.move(a, b) ? 1 : 0, m.move(a, b) ? 1 : 0); break;
            case 19: case 20: a = about(0, 5); boolean on = below(3) > 0;
                due(run, "tie(" + a + ")", x.tie(a, on) ? 1 : 0, m.tie(a, on) ? 1 : 0); break;
            case 21: a = about(1, below(2) == 0 ? 99 : 9);
                due(run, "pay(" + a + ")", x.pay(a) ? 1 : 0, m.pay(a) ? 1 : 0); break;
            case 22: a = about(0, 7); due(run, "scrape(" + a + ")", x.scrape(a) ? 1 : 0, m.scrape(a) ? 1 : 0); break;
            case 23: case 24: due(run, "undo()", x.undo() ? 1 : 0, m.undo() ? 1 : 0); break;
            case 25: a = bound(); b = bound(); due(run, "trim(" + a + ", " + b + ")", x.trim(a, b), m.trim(a, b)); break;
            case 26: a = bound(); b = bound(); c = about(0, 3);
                due(run, "trimAt(" + a + ", " + b + ", " + c + ")", x.trimAt(a, b, c), m.trimAt(a, b, c)); break;
            case 27: due(run, "helm()", x.helm(), m.helm()); break;
            case 28: due(run, "steer(" + a + ", " + b + ")", x.steer(a, b), m.steer(a, b)); break;
            case 29: c = about(0, 6);
                due(run, "turn(" + a + ", " + b + ", " + c + ")", x.turn(a, b, c), m.turn(a, b, c)); break;
            case 30: due(run, "ways(" + c + ", " + a + ", " + b + ")", x.ways(c, a, b), m.ways(c, a, b)); break;
            case 31: due(run, "may(" + c + ")", x.may(c), m.may(c)); break;
            case 32: a = about(0, 3); due(run, "span(" + c + ", " + a + ")", x.span(c, a), m.span(c, a)); break;
            case 33: case 34: c = about(0, below(2) == 0 ? 20 : 8);
                due(run, "seen(" + c + ", " + a + ", " + b + ")", x.seen(c, a, b), m.seen(c, a, b)); break;
            case 35: if (below(4) == 0) due(run, "fits()", x.fits(), m.fits()); break;
            case 36: if (below(4) > 0) break;
                c = about(0, below(2) == 0 ? 20 : 8); a = about(0, 3);
                due(run, "was(" + c + ", " + a + ")", x.was(c, a), m.was(c, a)); break;
            case 37: a = about(0, 360); due(run, "save(" + a + ")", x.save(a), m.save(a)); break;
            case 38: a = about(0, below(2) == 0 ? 360 : 60);
                due(run, "saved(" + a + ")", x.saved(a), m.saved(a)); break;
            case 39: due(run, "must()", x.must(), m.must()); break;
            case 40: due(run, "shelter()", x.shelter(), m.shelter()); break;
            case 41: due(run, "image()", x.image(), m.image()); break;
            case 42: a = about(0, 3); due(run, "restore(" + a + ")", x.restore(a) ? 1 : 0, m.restore(a) ? 1 : 0); break;
            default: a = about(0, 3); due(run, "led(" + a + ")", led(x, a), led(m, a));
        }
        due(run, "trouble()", x.trouble(), m.trouble());
        if (below(4) == 0) due(run, "where()", x.where(), m.where());
        if (below(4) == 0) a = about(0, 12);
        due(run, "size(" + a + ")", x.size(a), m.size(a));
    }

    /** A text takes up to 50 calls, one of the others up to 5. */
    private static void tellSome(int run, TurtleBack x, Model m, String text) {
        if (ofOne + 50 <= 512) tell(run, x, m, text);
    }

    private static void callSome(int run, TurtleBack x, Model m, int many) {
        for (int i = 0; i < many && ofOne + 5 <= 512; i++) call(run, x, m);
    }

    private static int bound() {
        return below(3) == 0 ? about(0, 9999) : below(2) == 0 ? between(0, 30) : between(0, 300);
    }

    private static int led(TurtleBack x, int i) {
        try {
            return x.led(i);
        } catch (NoSuchElementException e) {
            return -9;
        }
    }

    private static int led(Model m, int i) {
        try {
            return m.led(i);
        } catch (NoSuchElementException e) {
            return -9;
        }
    }

    public static void main(String[] args) {
        int runs = args.length > 0 ? Integer.parseInt(args[0]) : 160;
        if (args.length > 1) draw = Long.parseLong(args[1]);
        for (int run = 0; run < runs; run++) {
            TurtleBack x = new TurtleBack();
            Model m = new Model();
            ofOne = 0;
            callSome(run, x, m, below(6));
            for (int i = below(4); i > 0; i--) tellSome(run, x, m, broken(beastText()));
            callSome(run, x, m, 10);
            tellSome(run, x, m, beastText());
            callSome(run, x, m, between(60, 160));
            if (below(2) == 0) tellSome(run, x, m, below(2) == 0 ? beastText() : broken(beastText()));
            callSome(run, x, m, 512);
        }
        for (int run = 0; run < 3 * runs; run++) {
            TurtleBack x = new TurtleBack();
            Model m = new Model();
            ofOne = 0;
            for (int i = 0; i < 12; i++) tellSome(-run, x, m, broken(beastText()));
        }
        System.out.println(calls + " calls, " + wrong + " of them wrong");
        for (int i = 0; i < told.length; i++) System.out.println("beasts with fault " + i + ": " + told[i]);
        if (wrong != 0) System.exit(1);
    }
}
