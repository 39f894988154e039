import java.util.ArrayList;
import java.util.List;

/** Each call that may be refused, by each number that the document tells of it; a refused call leaves all as it is. */
public final class RefusalsTest {
    private static final int MIN = Integer.MIN_VALUE;
    private static final int MAX = Integer.MAX_VALUE;

    private interface Call {
        long of(TurtleBack x);
    }

    private record Refusal(String name, Call call, long answer, int trouble) {
    }

    private static final List<Refusal> refusals = new ArrayList<>();

    private static void due(int trouble, long answer, String name, Call call) {
        refusals.add(new Refusal(name, call, answer, trouble));
    }

    private static long bit(boolean answer) {
        return answer ? 1 : 0;
    }

    // ---- what is there to be seen

    /** All that calls tell without changing it; some eighty calls. */
    static String stateOf(TurtleBack x) {
        StringBuilder state = new StringBuilder();
        for (int what = 0; what <= 12; what++) state.append(x.size(what)).append(' ');
        for (int what = 0; what <= 7; what++) state.append(x.now(what)).append(' ');
        state.append(x.pleased()).append(' ').append(x.list()).append(' ').append(x.pitch()).append(' ');
        state.append(x.judge()).append(' ').append(x.lost()).append(' ').append(Due.led(x, 0)).append(' ');
        for (int h = 0; h < x.size(1); h++) state.append(x.house(h, 0)).append(x.house(h, 1)).append(' ');
        for (int f = 0; f < x.size(2); f++) state.append(x.family(f, 0)).append(x.family(f, 1)).append(' ');
        for (int s = 0; s < x.size(0); s++) {
            state.append(x.scute(s, 0)).append(x.scute(s, 1)).append(x.scute(s, 2)).append(' ');
        }
        int days = x.size(7);
        state.append(x.log(days, 0)).append(x.log(days, 1)).append(x.log(0, 0)).append(x.log(0, 1)).append(' ');
        return state.append(x.fits()).append(' ').append(x.may(3)).toString();
    }

    /** Some of the refusals at a time: an object is used for 512 calls at most. */
    private static void allAreRefused(String when, TurtleBack[] fresh) {
        int each = (refusals.size() + fresh.length - 1) / fresh.length;
        for (int from = 0; from < refusals.size(); from += each) {
            TurtleBack x = fresh[from / each];
            String before = stateOf(x);
            int fault = x.fault();
            for (Refusal r : refusals.subList(from, Math.min(from + each, refusals.size()))) {
                Due.is(when + ", " + r.name, r.call.of(x), r.answer);
                Due.is(when + ", " + r.name + ", its trouble", x.trouble(), r.trouble);
                Due.is(when + ", " + r.name + ", its place", x.where(), -1);
            }
            Due.is(when + ", the FAULT stays", x.fault(), fault);
            String behind = stateOf(x);
            Due.is(when + ", all stays as it was: " + before + " / " + behind, before.equals(behind), true);
        }
        refusals.clear();
    }

    private static TurtleBack[] fresh(int many) {
        TurtleBack[] all = new TurtleBack[many];
        for (int i = 0; i < many; i++) all[i] = lived();
        return all;
    }

    /**
     * Six days old: c moulted with house j, d left with house k and family p; a was scraped, h is tied, 14 coins,
     * six sightings, four images, one act that can be taken back.
     */
    private static TurtleBack lived() {
        TurtleBack x = Due.turtle("keel 1 mid 1 feels 99 dives 30 calm 50 hungry 30", "at 5,5 heads 0",
                "scute a at 1,1 holds 20;scute b at 2,1 holds 20;scute c at 0,1 holds 20;scute d at 1,2 holds 20"
                        + ";house h on a weighs 5 ties 5 worth 7;house i on b weighs 5 ties 6 worth 9"
                        + ";house j on c weighs 5 ties 7 worth 11;house k on d weighs 5 ties 8 worth 13"
                        + ";family f on a weighs 5;family g on b weighs 11;family p on d weighs 1"
                        + ";isle m at 0,0 from 1 to 9 buys 1;moult c day 2;young d day 3");
        x.seed(5);
        for (int i = 0; i < 6; i++) x.seen(20, 9, 9);
        x.days(6);
        x.tie(0, true);
        for (int i = 0; i < 4; i++) x.image();
        x.scrape(0);
        return x;
    }

    // ---- refused by 1: there is none such

    private static void noBeastToTellOf() {
        due(1, 0, "seed(0)", x -> bit(x.seed(0)));
        due(1, 0, "seed(-1)", x -> bit(x.seed(-1)));
        due(1, -1, "days(1)", x -> x.days(1));
        due(1, -1, "days(0)", x -> x.days(0));
        for (int what = -1; what <= 8; what++) {
            int w = what;
            due(1, -1, "now(" + w + ")", x -> x.now(w));
            due(1, -1, "log(0, " + w + ")", x -> x.log(0, w));
            due(1, -1, "house(0, " + w + ")", x -> x.house(0, w));
            due(1, -1, "family(0, " + w + ")", x -> x.family(0, w));
            due(1, -1, "scute(0, " + w + ")", x -> x.scute(0, w));
            due(1, -1, "span(0, " + w + ")", x -> x.span(0, w));
            due(1, -1, "was(0, " + w + ")", x -> x.was(0, w));
        }
        due(1, -1000, "pleased()", x -> x.pleased());
        due(1, -100_000, "list()", x -> x.list());
        due(1, -100_000, "pitch()", x -> x.pitch());
        due(1, -1, "judge()", x -> x.judge());
        due(1, -1, "lost()", x -> x.lost());
        due(1, -1, "helm()", x -> x.helm());
        due(1, -1, "fits()", x -> x.fits());
        due(1, -1, "must()", x -> x.must());
        due(1, -1, "shelter()", x -> x.shelter());
        due(1, -1, "image()", x -> x.image());
    }

    private static void noBeastToActOn() {
        due(1, 0, "move(0, 0)", x -> bit(x.move(0, 0)));
        due(1, 0, "tie(0, true)", x -> bit(x.tie(0, true)));
        due(1, 0, "tie(0, false)", x -> bit(x.tie(0, false)));
        due(1, 0, "scrape(0)", x -> bit(x.scrape(0)));
        due(1, 0, "restore(0)", x -> bit(x.restore(0)));
        due(6, 0, "undo()", x -> bit(x.undo()));
        for (int n : new int[] {-1, 0, 1, 400, 10_000}) {
            due(1, 0, "pay(" + n + ")", x -> bit(x.pay(n)));
            due(1, -1, "trim(" + n + ", 0)", x -> x.trim(n, 0));
            due(1, -1, "trimAt(0, " + n + ", 0)", x -> x.trimAt(0, n, 0));
            due(1, -1, "steer(" + n + ", 0)", x -> x.steer(n, 0));
            due(1, -1, "turn(0, " + n + ", 0)", x -> x.turn(0, n, 0));
            due(1, -1, "ways(" + n + ", 0, 0)", x -> x.ways(n, 0, 0));
            due(1, -1, "may(" + n + ")", x -> x.may(n));
            due(1, -1, "seen(" + n + ", 0, 0)", x -> x.seen(n, 0, 0));
            due(1, -1, "save(" + n + ")", x -> x.save(n));
            due(1, -1, "saved(" + n + ")", x -> x.saved(n));
        }
    }

    private static void aNewObjectHasNoBeast() {
        Due.by("`TurtleBack()`: No BEAST.");
        noBeastToTellOf();
        noBeastToActOn();
        allAreRefused("no BEAST", new TurtleBack[] {new TurtleBack(), new TurtleBack()});
        TurtleBack faulty = new TurtleBack();
        Due.tell(faulty, "law keel 1 mid 1 feels 99 dives 4 calm 50 hungry 30;scute a at 1,1 holds 20;house h on a weighs 5");
        TurtleBack another = new TurtleBack();
        Due.tell(another, "begins at 1,1 heads 1;scute a at 1,1 holds 20;family f on a weighs 5");
        noBeastToTellOf();
        noBeastToActOn();
        allAreRefused("no BEAST by a text with a fault", new TurtleBack[] {faulty, another});
    }

    private static void noneSuch() {
        Due.by("1 there is none such");
        for (int n : new int[] {-1, 4, MIN, MAX}) {
            due(1, -1, "house(" + n + ", 0)", x -> x.house(n, 0));
            due(1, -1, "scute(" + n + ", 0)", x -> x.scute(n, 0));
            due(1, 0, "tie(" + n + ", true)", x -> bit(x.tie(n, true)));
            due(1, 0, "scrape(" + n + ")", x -> bit(x.scrape(n)));
            due(1, 0, "move(0, " + n + ")", x -> bit(x.move(0, n)));
            due(1, 0, "restore(" + n + ")", x -> bit(x.restore(n)));
            due(1, -1, "span(0, " + n + ")", x -> x.span(0, n));
            due(1, -1, "was(0, " + n + ")", x -> x.was(0, n));
            due(1, -1, "span(13, " + n + "), a number, too", x -> x.span(13, n));
            due(1, -1, "was(21, " + n + "), a number, too", x -> x.was(21, n));
        }
        for (int n : new int[] {-1, 3, MIN, MAX}) {
            due(1, -1, "family(" + n + ", 0)", x -> x.family(n, 0));
            due(1, -1, "scute(0, " + n + ")", x -> x.scute(0, n));
            due(1, 0, "move(" + n + ", 0)", x -> bit(x.move(n, 0)));
            due(1, -1, "trimAt(0, 0, " + n + ")", x -> x.trimAt(0, 0, n));
            due(1, -1, "trimAt(10000, -1, " + n + "), a number, too", x -> x.trimAt(10_000, -1, n));
        }
        due(1, -1, "trimAt(0, 0, 2), who isn't THERE", x -> x.trimAt(0, 0, 2));
        due(1, -1, "trimAt(-1, 0, 2), who isn't THERE, a number, too", x -> x.trimAt(-1, 0, 2));
        for (int n : new int[] {-1, 2, MIN, MAX}) {
            due(1, -1, "house(0, " + n + ")", x -> x.house(0, n));
            due(1, -1, "family(0, " + n + ")", x -> x.family(0, n));
            due(1, -1, "log(0, " + n + ")", x -> x.log(0, n));
        }
        for (int n : new int[] {-1, 7, 200, 201, MIN, MAX}) due(1, -1, "log(" + n + ", 0)", x -> x.log(n, 0));
        for (int n : new int[] {-1, 8, MIN, MAX}) due(1, -1, "now(" + n + ")", x -> x.now(n));
        allAreRefused("by 1", fresh(2));
    }

    // ---- refused by 2: a number

    private static void wrongNumbers() {
        Due.by("2 a number");
        for (int n : new int[] {-1, 65_537, MIN, MAX}) due(2, 0, "seed(" + n + ")", x -> bit(x.seed(n)));
        for (int n : new int[] {0, -1, 61, MIN, MAX}) due(2, -1, "days(" + n + ")", x -> x.days(n));
        for (int n : new int[] {0, -1, 100, MIN, MAX}) due(2, 0, "pay(" + n + ")", x -> bit(x.pay(n)));
        for (int n : new int[] {-1, 10_000, MIN, MAX}) {
            due(2, -1, "trim(" + n + ", 0)", x -> x.trim(n, 0));
            due(2, -1, "trim(0, " + n + ")", x -> x.trim(0, n));
            due(2, -1, "trimAt(" + n + ", 0, 0)", x -> x.trimAt(n, 0, 0));
            due(2, -1, "trimAt(0, " + n + ", 1)", x -> x.trimAt(0, n, 1));
        }
        for (int n : new int[] {-1, 361, MIN, MAX}) {
            due(2, -1, "save(" + n + ")", x -> x.save(n));
            due(2, -1, "saved(" + n + ")", x -> x.saved(n));
        }
        for (int n : new int[] {-1, 1, 901, MIN, MAX}) due(2, -1, "beast(" + n + ")", x -> x.beast(n));
        allAreRefused("by 2", fresh(1));
        for (int n : new int[] {-1, 10, MIN, MAX}) {
            due(2, -1, "steer(" + n + ", 0)", x -> x.steer(n, 0));
            due(2, -1, "steer(0, " + n + ")", x -> x.steer(0, n));
            due(2, -1, "turn(" + n + ", 0, 0)", x -> x.turn(n, 0, 0));
            due(2, -1, "turn(0, " + n + ", -1)", x -> x.turn(0, n, -1));
            due(2, -1, "ways(0, " + n + ", 0)", x -> x.ways(0, n, 0));
            due(2, -1, "ways(12, 0, " + n + ")", x -> x.ways(12, 0, n));
            due(2, -1, "seen(0, " + n + ", 0), no room, too", x -> x.seen(0, n, 0));
            due(2, -1, "seen(20, 0, " + n + "), no room, too", x -> x.seen(20, 0, n));
        }
        for (int n : new int[] {-1, 13, MIN, MAX}) {
            due(2, -1, "ways(" + n + ", 0, 0)", x -> x.ways(n, 0, 0));
            due(2, -1, "may(" + n + ")", x -> x.may(n));
            due(2, -1, "span(" + n + ", 3)", x -> x.span(n, 3));
        }
        for (int n : new int[] {-1, 21, MIN, MAX}) {
            due(2, -1, "seen(" + n + ", 0, 0), no room, too", x -> x.seen(n, 0, 0));
            due(2, -1, "was(" + n + ", 0)", x -> x.was(n, 0));
        }
        allAreRefused("by 2", fresh(1));
    }

    // ---- refused by 3, 5, 6

    private static void noRoom() {
        Due.by("3 no room");
        due(3, -1, "image()", x -> x.image());
        due(3, -1, "seen(0, 0, 0)", x -> x.seen(0, 0, 0));
        due(3, -1, "seen(20, 9, 9)", x -> x.seen(20, 9, 9));
        allAreRefused("by 3", fresh(1));
        TurtleBack x = lived();
        for (int n : new int[] {60, 60, 60, 9}) x.days(n);
        Due.is("DAYS", x.size(7), 195);
        for (int n : new int[] {6, 60}) due(3, -1, "days(" + n + ")", y -> y.days(n));
        for (int n : new int[] {0, 61}) due(2, -1, "days(" + n + "), no room, too", y -> y.days(n));
        allAreRefused("by 3", new TurtleBack[] {x});
        Due.is("days(5)", x.days(5), 200);
    }

    private static void notSo() {
        Due.by("5 not so");
        due(5, 0, "move(2, 0), who isn't THERE", x -> bit(x.move(2, 0)));
        due(5, 0, "move(2, 3), to its own", x -> bit(x.move(2, 3)));
        due(5, 0, "move(0, 2), to one that is GONE", x -> bit(x.move(0, 2)));
        due(5, 0, "move(0, 3), to one that is GONE", x -> bit(x.move(0, 3)));
        due(5, 0, "move(0, 0), to its own", x -> bit(x.move(0, 0)));
        due(5, 0, "move(0, 1), who is too much by 1", x -> bit(x.move(0, 1)));
        for (boolean on : new boolean[] {true, false}) {
            due(5, 0, "tie(2, " + on + "), which is LOST", x -> bit(x.tie(2, on)));
            due(5, 0, "tie(3, " + on + "), which is AWAY", x -> bit(x.tie(3, on)));
            due(5, 0, "tie(" + (on ? 0 : 1) + ", " + on + "), which is so", x -> bit(x.tie(on ? 0 : 1, on)));
        }
        due(5, 0, "pay(15) of 14", x -> bit(x.pay(15)));
        due(5, 0, "pay(99) of 14", x -> bit(x.pay(99)));
        due(5, 0, "scrape(0), which has none", x -> bit(x.scrape(0)));
        due(5, 0, "scrape(2), which is GONE", x -> bit(x.scrape(2)));
        due(5, 0, "scrape(3), which is GONE", x -> bit(x.scrape(3)));
        allAreRefused("by 5", fresh(1));
        TurtleBack x = lived();
        Due.is("pay(14) of 14", x.pay(14), true);
        Due.is("scrape(1)", x.scrape(1), true);
        Due.is("move(1, 0), who is too much by 1", x.move(1, 0), false);
    }

    private static void thereIsNone() {
        Due.by("6 there is none");
        due(6, -1, "turn(5, 5, -1)", x -> x.turn(5, 5, -1));
        for (int i : new int[] {-1, 0, 1, 40, MIN, MAX}) {
            due(6, -1, "turn at its CELL, " + i, x -> x.turn(x.now(0), x.now(1), i));
        }
        due(6, -1, "was(20, 0), as nothing FITS", x -> x.was(20, 0));
        due(6, -1, "was(0, 3), as nothing FITS", x -> x.was(0, 3));
        TurtleBack x = lived();
        x.undo();
        x.undo();
        due(6, 0, "undo()", y -> bit(y.undo()));
        Due.tell(x, Due.PLAIN);
        x.seen(3, 0, 0);
        x.seen(3, 1, 0);
        allAreRefused("by 6", new TurtleBack[] {x});
        TurtleBack none = Due.told(Due.PLAIN);
        for (int day : new int[] {0, 1, 20}) due(6, -1, "was(" + day + ", 0), as nothing was SEEN", y -> y.was(day, 0));
        TurtleBack leans = Due.turtle("keel 1 mid 1 feels 1 dives 30 calm 50 hungry 30", "at 5,5 heads 0",
                "scute a at 2,1 holds 20;family f on a weighs 5");
        allAreRefused("by 6", new TurtleBack[] {none});
        due(6, -1, "trimAt(4, 0, 0), as it can't be", y -> y.trimAt(4, 0, 0));
        due(6, -1, "turn(0, 0, 0), as it can't be", y -> y.turn(0, 0, 0));
        due(6, -1, "undo()", y -> y.undo() ? 1 : -1);
        allAreRefused("by 6", new TurtleBack[] {leans});
    }

    // ---- trouble

    private static void troubleOfTheLatest() {
        Due.by("TROUBLE of the latest call that may be refused (those of which a number is told here): 0 it wasn't");
        TurtleBack x = lived();
        Call[] fine = {
            y -> bit(y.seed(1)), y -> y.now(0), y -> y.pleased(), y -> y.log(0, 0), y -> y.house(0, 0), y -> y.family(0, 0),
            y -> y.scute(0, 0), y -> y.list(), y -> y.pitch(), y -> y.judge(), y -> y.lost(), y -> bit(y.tie(1, true)),
            y -> bit(y.pay(1)), y -> bit(y.scrape(1)), y -> bit(y.undo()), y -> y.trim(9999, 9999),
            y -> y.trimAt(9999, 9999, 0), y -> y.helm(), y -> y.steer(y.now(0), y.now(1)), y -> y.ways(1, 0, 0),
            y -> y.may(1), y -> y.span(1, 0), y -> y.fits(), y -> y.save(1), y -> y.saved(1), y -> y.must(), y -> y.shelter(),
            y -> bit(y.restore(0)), y -> y.days(1),
        };
        for (int i = 0; i < fine.length; i++) {
            x.now(-1);
            Due.is("ahead of " + i, x.trouble(), 1);
            fine[i].of(x);
            Due.is("behind " + i, x.trouble(), 0);
        }
        Call[] silent = {y -> y.feed(0, 0, 0, 0, 0), y -> y.fault(), y -> y.where(), y -> Due.led(y, 0),
            y -> Due.led(y, 9), y -> y.size(0), y -> y.size(13), y -> y.trouble()};
        for (int i = 0; i < silent.length; i++) {
            silent[i].of(x);
            Due.is("0 behind silent " + i, x.trouble(), 0);
        }
        x.days(0);
        for (int i = 0; i < silent.length; i++) {
            silent[i].of(x);
            Due.is("2 behind silent " + i, x.trouble(), 2);
        }
        Due.is("a new object", new TurtleBack().trouble(), 0);
        Due.by("4 a FAULT");
        Due.tell(x, "law");
        Due.is("by a FAULT", x.trouble(), 4);
    }

    /** Where the answer -2 is told, nothing is refused. */
    private static void whatCantBeIsNotRefused() {
        Due.by("how many move; -2 if it can't be. NONE: 1 (no BEAST); 2.");
        TurtleBack x = Due.turtle("keel 1 mid 1 feels 1 dives 30 calm 50 hungry 30", "at 5,5 heads 0",
                "scute a at 2,1 holds 20;family f on a weighs 5");
        Due.refused(x, "trim(4, 0)", x.trim(4, 0), -2, 0);
        Due.refused(x, "steer(0, 0)", x.steer(0, 0), -2, 0);
        Due.refused(x, "must()", x.must(), -2, 0);
        Due.refused(x, "shelter()", x.shelter(), -2, 0);
        Due.refused(x, "judge()", x.judge(), -2, 0);
    }

    public static void main(String[] args) {
        aNewObjectHasNoBeast();
        noneSuch();
        wrongNumbers();
        noRoom();
        notSo();
        thereIsNone();
        troubleOfTheLatest();
        whatCantBeIsNotRefused();
        Due.end();
    }
}
