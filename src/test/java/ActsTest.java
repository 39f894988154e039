/** Promises 18 to 22: what one does on the back, and how it is taken back. */
public final class ActsTest {
    private static final String REST = "scute a at 1,1 holds 12;scute b at 2,1 holds 12;scute c at 0,1 holds 40"
            + ";house h on a weighs 7 ties 1 worth 5;house i on b weighs 2 ties 1 worth 7"
            + ";family f on a weighs 5;family g on b weighs 6;family k on c weighs 5;moult c day 2";

    private static TurtleBack turtle() {
        return Due.turtle("keel 1 mid 1 feels 99 dives 30 calm 99 hungry 30", "at 5,5 heads 0", REST);
    }

    private static void moves() {
        TurtleBack x = turtle();
        Due.refused(x, "move(-1, 0)", x.move(-1, 0), 1);
        Due.refused(x, "move(3, 0)", x.move(3, 0), 1);
        Due.refused(x, "move(0, -1)", x.move(0, -1), 1);
        Due.refused(x, "move(0, 3)", x.move(0, 3), 1);
        Due.refused(x, "its own", x.move(0, 0), 5);
        Due.refused(x, "b would hold 13", x.move(0, 1), 5);
        Due.refused(x, "a would hold 18", x.move(1, 0), 5);
        Due.is("no act", x.size(12), 0);
        Due.is("to c", x.move(0, 2), true);
        Due.is("trouble", x.trouble(), 0);
        Due.is("its SCUTE", x.family(0, 1), 2);
        Due.is("LOAD of a", x.scute(0, 1), 7);
        Due.is("LOAD of c", x.scute(2, 1), 10);
        Due.is("LIST", x.list(), 8 - 10);
        Due.is("a may hold 12", x.move(2, 0), true);
        Due.is("LOAD of a", x.scute(0, 1), 12);
        Due.is("two acts", x.size(12), 2);
        x.days(2);
        Due.refused(x, "it isn't there", x.move(0, 0), 5);
        Due.refused(x, "the scute is gone", x.move(1, 2), 5);
        Due.refused(x, "none such ahead of not so", x.move(0, 3), 1);
    }

    private static void ties() {
        TurtleBack x = turtle();
        Due.refused(x, "tie(-1, true)", x.tie(-1, true), 1);
        Due.refused(x, "tie(2, true)", x.tie(2, true), 1);
        Due.refused(x, "not tied", x.tie(1, false), 5);
        Due.is("tie(1, true)", x.tie(1, true), true);
        Due.is("trouble", x.trouble(), 0);
        Due.is("house 1", x.house(1, 1), 1);
        Due.is("house 0", x.house(0, 1), 0);
        Due.refused(x, "tied", x.tie(1, true), 5);
        Due.is("tie(1, false)", x.tie(1, false), true);
        Due.is("house 1", x.house(1, 1), 0);
        TurtleBack y = Due.turtle("keel 1 mid 1 feels 99 dives 1 calm 99 hungry 30", "at 5,5 heads 0", REST);
        y.tie(1, true);
        y.days(1);
        Due.refused(y, "it is lost", y.tie(0, true), 5);
        Due.is("there and tied", y.tie(1, false), true);
    }

    private static void pays() {
        TurtleBack x = turtle();
        Due.refused(x, "there are fewer", x.pay(1), 5);
        x.days(1);
        Due.is("COINS", x.now(4), 3);
        Due.refused(x, "pay(0)", x.pay(0), 2);
        Due.refused(x, "pay(100)", x.pay(100), 2);
        Due.refused(x, "pay(-1)", x.pay(-1), 2);
        Due.refused(x, "pay(4)", x.pay(4), 5);
        Due.is("pay(2)", x.pay(2), true);
        Due.is("trouble", x.trouble(), 0);
        Due.is("COINS", x.now(4), 1);
        Due.is("PLEASED", x.pleased(), 2);
        Due.is("pay(1)", x.pay(1), true);
        Due.is("PLEASED", x.pleased(), 3);
        Due.refused(x, "none are left", x.pay(1), 5);
        TurtleBack rich = Due.turtle("keel 1 mid 1 feels 99 dives 30 calm 0 hungry 30", "at 5,5 heads 0",
                REST + ";isle r at 5,4 from 1 to 1 buys 99");
        rich.days(1);
        Due.refused(rich, "pay(100)", rich.pay(100), 2);
        Due.is("pay(99)", rich.pay(99), true);
    }

    private static void scrapes() {
        TurtleBack x = turtle();
        Due.refused(x, "scrape(-1)", x.scrape(-1), 1);
        Due.refused(x, "scrape(3)", x.scrape(3), 1);
        Due.refused(x, "it has none", x.scrape(0), 5);
        x.days(2);
        Due.refused(x, "it is gone", x.scrape(2), 5);
        Due.is("scrape(0)", x.scrape(0), true);
        Due.is("trouble", x.trouble(), 0);
        Due.is("BARNACLES", x.scute(0, 2), 0);
        Due.is("of another", x.scute(1, 2), 2);
        Due.is("PLEASED", x.pleased(), 1);
        Due.refused(x, "none any more", x.scrape(0), 5);
    }

    private static void takesBack() {
        TurtleBack x = turtle();
        x.days(1);
        x.move(0, 2);
        x.tie(1, true);
        x.pay(2);
        x.scrape(1);
        x.tie(1, false);
        Due.is("acts", x.size(12), 5);
        Due.is("undo of untying", x.undo(), true);
        Due.is("trouble", x.trouble(), 0);
        Due.is("tied", x.house(1, 1), 1);
        Due.is("undo of scraping", x.undo(), true);
        Due.is("BARNACLES", x.scute(1, 2), 1);
        Due.is("PLEASED", x.pleased(), 2);
        Due.is("undo of paying", x.undo(), true);
        Due.is("PLEASED", x.pleased(), 0);
        Due.is("COINS", x.now(4), 3);
        Due.is("undo of tying", x.undo(), true);
        Due.is("not tied", x.house(1, 1), 0);
        Due.is("acts", x.size(12), 1);
        Due.is("undo of moving", x.undo(), true);
        Due.is("its SCUTE", x.family(0, 1), 0);
        Due.refused(x, "none is left", x.undo(), 6);
        x.tie(0, true);
        Due.refused(x, "days(0)", x.days(0), -1, 2);
        Due.is("a refused day leaves them", x.size(12), 1);
        x.days(1);
        Due.is("a day takes them away", x.size(12), 0);
        Due.refused(x, "undo", x.undo(), 6);
        Due.is("tied still", x.house(0, 1), 1);
    }

    private static void thirtyAtMost() {
        TurtleBack x = turtle();
        for (int i = 0; i < 31; i++) x.tie(0, i % 2 == 0);
        Due.is("of 31 acts", x.size(12), 30);
        for (int i = 0; i < 5; i++) Due.is("undo", x.undo(), true);
        Due.is("left", x.size(12), 25);
        for (int i = 0; i < 10; i++) Due.is("tie(1)", x.tie(1, i % 2 == 0), true);
        Due.is("full again", x.size(12), 30);
        for (int i = 0; i < 30; i++) Due.is("undo " + i, x.undo(), true);
        Due.refused(x, "no more", x.undo(), 6);
        Due.is("what can't be taken back: the first six", x.house(0, 1), 0);
    }

    private static boolean act(TurtleBack x, int i) {
        if (i % 4 == 0) return x.move(i / 4 % 3, i / 12 % 3);
        if (i % 4 == 1) return x.tie(i / 4 % 2, i / 8 % 2 == 0);
        if (i == 2) return x.pay(2);
        if (i == 22) return x.pay(1);
        return i % 20 == 3 && x.scrape(i / 20 % 3);
    }

    /** Each act leaves another state: taking them back must go through the same states. */
    private static void eachIsTakenBackAsItWas() {
        TurtleBack x = turtle();
        TurtleBack like = turtle();
        x.days(1);
        like.days(1);
        String[] states = new String[36];
        String now = stateOf(like);
        int made = 0;
        for (int i = 0; made < 36 && i < 200; i++) {
            boolean done = act(like, i);
            Due.is("act " + i, act(x, i), done);
            if (!done) continue;
            states[made++] = now;
            now = stateOf(like);
        }
        Due.is("so many acts", made, 36);
        Due.is("that can be taken back", x.size(12), 30);
        for (int i = 0; i < 30; i++) {
            Due.is("undo " + i, x.undo(), true);
            Due.is("the state of act " + (35 - i), stateOf(x).equals(states[35 - i]), true);
        }
        Due.refused(x, "no more", x.undo(), 6);
    }

    private static String stateOf(TurtleBack x) {
        StringBuilder state = new StringBuilder();
        for (int f = 0; f < 3; f++) state.append(x.family(f, 1)).append(' ');
        for (int h = 0; h < 2; h++) state.append(x.house(h, 1)).append(' ');
        for (int s = 0; s < 3; s++) state.append(x.scute(s, 2)).append(' ');
        return state.append(x.now(4)).append(' ').append(x.pleased()).toString();
    }

    public static void main(String[] args) {
        moves();
        ties();
        pays();
        scrapes();
        takesBack();
        thirtyAtMost();
        eachIsTakenBackAsItWas();
        Due.end();
    }
}
