/** Promises 34 to 37: which houses are tied in time, which must be, where one finds shelter. */
public final class RopesTest {
    private static TurtleBack turtle(String rest) {
        return Due.turtle("keel 5 mid 5 feels 10 dives 2 calm 9 hungry 30", "at 5,5 heads 0",
                "scute a at 5,5 holds 20;scute b at 4,5 holds 20;scute c at 6,5 holds 20" + rest);
    }

    private static void saveIs(TurtleBack x, int minutes, int worth, int houses) {
        Due.is("save(" + minutes + ")", x.save(minutes), worth);
        Due.is("its trouble", x.trouble(), 0);
        Due.is("saved(" + minutes + ")", x.saved(minutes), houses);
        Due.is("its trouble", x.trouble(), 0);
    }

    private static void theMostWorthInTime() {
        TurtleBack x = turtle(";house h on a weighs 1 ties 10 worth 9;house i on b weighs 1 ties 6 worth 5"
                + ";house j on b weighs 1 ties 5 worth 5;house k on c weighs 1 ties 60 worth 99");
        saveIs(x, 0, 0, 0);
        saveIs(x, 4, 0, 0);
        saveIs(x, 5, 5, 4);
        saveIs(x, 6, 5, 2);
        saveIs(x, 10, 9, 1);
        saveIs(x, 11, 10, 6);
        saveIs(x, 15, 14, 5);
        saveIs(x, 16, 14, 3);
        saveIs(x, 21, 19, 7);
        saveIs(x, 60, 99, 8);
        saveIs(x, 80, 113, 11);
        saveIs(x, 81, 118, 15);
        saveIs(x, 360, 118, 15);
        x.tie(0, true);
        saveIs(x, 0, 9, 1);
        saveIs(x, 5, 14, 5);
        x.tie(3, true);
        saveIs(x, 0, 108, 9);
        saveIs(x, 10, 113, 11);
        saveIs(x, 11, 118, 15);
        x.days(2);
        Due.is("those that weren't tied are LOST", x.lost(), 10);
        saveIs(x, 360, 108, 9);
        Due.is("no more is tied", x.house(1, 1), 0);
    }

    private static void likeOnesByTheLeastBits() {
        TurtleBack x = turtle(";house h on a weighs 1 ties 9 worth 7;house i on b weighs 1 ties 4 worth 3"
                + ";house j on b weighs 1 ties 5 worth 4;house k on c weighs 1 ties 1 worth 4");
        saveIs(x, 9, 8, 12);
        saveIs(x, 5, 7, 10);
        saveIs(x, 4, 4, 8);
        TurtleBack y = turtle(";house h on a weighs 1 ties 9 worth 7;house i on b weighs 1 ties 4 worth 3"
                + ";house j on b weighs 1 ties 5 worth 4");
        saveIs(y, 9, 7, 1);
        y.tie(2, true);
        saveIs(y, 0, 4, 4);
        saveIs(y, 4, 7, 6);
        saveIs(y, 9, 11, 5);
    }

    private static void minutesThatAreRefused() {
        TurtleBack x = turtle("");
        Due.refused(x, "save(-1)", x.save(-1), -1, 2);
        Due.refused(x, "save(361)", x.save(361), -1, 2);
        Due.refused(x, "saved(-1)", x.saved(-1), -1, 2);
        Due.refused(x, "saved(361)", x.saved(361), -1, 2);
        saveIs(x, 360, 0, 0);
    }

    private static void mustIs(TurtleBack x, int must, int shelter) {
        Due.is("must()", x.must(), must);
        Due.is("its trouble", x.trouble(), 0);
        Due.is("shelter()", x.shelter(), shelter);
        Due.is("its trouble", x.trouble(), 0);
    }

    private static void eachFamilyBesideATiedHouse() {
        mustIs(turtle(";house h on a weighs 1 ties 10 worth 9"), 0, 0);
        mustIs(turtle(";family f on a weighs 1"), -2, -2);
        String houses = ";house h on a weighs 1 ties 10 worth 9;house i on a weighs 1 ties 7 worth 5"
                + ";house j on b weighs 1 ties 20 worth 5";
        mustIs(turtle(houses + ";family f on a weighs 1"), 7, 7);
        mustIs(turtle(houses + ";family f on a weighs 1;family g on a weighs 1"), 7, 7);
        mustIs(turtle(houses + ";family f on a weighs 1;family g on b weighs 1"), 27, 7);
        mustIs(turtle(houses + ";family f on c weighs 1;family g on b weighs 1"), -2, 7);
        TurtleBack x = turtle(houses + ";family f on a weighs 1;family g on b weighs 1");
        x.tie(2, true);
        mustIs(x, 7, 0);
        x.tie(0, true);
        mustIs(x, 0, 0);
        x.tie(2, false);
        mustIs(x, 20, 0);
        x.days(2);
        Due.is("a family is lost", x.family(1, 0), 1);
        mustIs(x, 0, 0);
    }

    private static void shelterHoldsSoMuch() {
        String houses = ";house h on a weighs 10 ties 3 worth 9;house j on b weighs 1 ties 20 worth 5";
        mustIs(turtle(houses + ";family f on b weighs 10"), 20, 3);
        mustIs(turtle(houses + ";family f on b weighs 11"), 20, 20);
        mustIs(turtle(houses + ";family f on c weighs 11"), -2, 20);
        mustIs(turtle(houses + ";family f on c weighs 6;family g on b weighs 5"), -2, 20);
        mustIs(turtle(houses.replace("b weighs 1", "b weighs 10") + ";family f on c weighs 6;family g on b weighs 5"), -2, 23);
        mustIs(turtle(houses + ";family f on a weighs 10;family g on b weighs 19"), 23, 23);
        mustIs(turtle(houses + ";family f on c weighs 20"), -2, -2);
        mustIs(turtle(";house h on a weighs 30 ties 3 worth 9;family f on a weighs 10"), 3, 3);
        mustIs(turtle(";house h on a weighs 30 ties 3 worth 9;family f on b weighs 1"), -2, -2);
    }

    private static void nobodySheltersOnWhatIsGone() {
        TurtleBack x = turtle(";house h on a weighs 1 ties 3 worth 9;house i on b weighs 1 ties 20 worth 9;family f on b weighs 1"
                + ";young a day 1");
        mustIs(x, 20, 3);
        x.days(1);
        mustIs(x, 20, 20);
    }

    public static void main(String[] args) {
        theMostWorthInTime();
        likeOnesByTheLeastBits();
        minutesThatAreRefused();
        eachFamilyBesideATiedHouse();
        shelterHoldsSoMuch();
        nobodySheltersOnWhatIsGone();
        Due.end();
    }
}
