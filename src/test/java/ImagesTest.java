/** Promises 38 to 42: images to go on from, what is told of all, trouble. */
public final class ImagesTest {
    private static int[] allOf(TurtleBack x) {
        int[] all = new int[70];
        int n = 0;
        for (int what = 0; what < 8; what++) all[n++] = x.now(what);
        all[n++] = x.pleased();
        all[n++] = x.size(7);
        all[n++] = x.size(8);
        for (int t = 0; t < 6; t++) all[n++] = x.log(t, 0) * 10 + x.log(t, 1);
        for (int i = 0; i < 2; i++) {
            for (int what = 0; what < 2; what++) {
                all[n++] = x.house(i, what);
                all[n++] = x.family(i, what);
            }
        }
        for (int s = 0; s < 3; s++) {
            for (int what = 0; what < 3; what++) all[n++] = x.scute(s, what);
        }
        all[n++] = x.list();
        all[n++] = x.lost();
        return all;
    }

    private static void same(String when, TurtleBack x, int[] want) {
        int[] got = allOf(x);
        for (int i = 0; i < got.length; i++) Due.is(when + ", part " + i, got[i], want[i]);
    }

    private static void imagesHoldAllAsItIs() {
        TurtleBack x = Due.told(Due.PLAIN + ";moult right day 4;isle near at 5,4 from 2 to 99 buys 5"
                + ";isle first at 6,4 from 1 to 99 buys 5");
        x.seed(77);
        x.days(1);
        x.tie(0, true);
        x.move(1, 0);
        x.scrape(1);
        int[] first = allOf(x);
        Due.is("image()", x.image(), 0);
        Due.is("trouble", x.trouble(), 0);
        Due.is("images", x.size(11), 1);
        Due.is("acts stay", x.size(12), 3);
        x.days(5);
        int[] second = allOf(x);
        Due.is("image()", x.image(), 1);
        x.seen(3, 3, 3);
        x.tie(0, false);
        Due.is("restore(0)", x.restore(0), true);
        Due.is("trouble", x.trouble(), 0);
        same("by the first", x, first);
        Due.is("no act can be taken back", x.size(12), 0);
        Due.refused(x, "undo()", x.undo(), 6);
        Due.is("images stay", x.size(11), 2);
        Due.is("what was SEEN stays", x.size(10), 1);
        x.days(5);
        same("the same days by the same draws", x, second);
        x.days(60);
        Due.is("restore(1)", x.restore(1), true);
        same("by the second", x, second);
        Due.is("the fate of a scute", x.scute(2, 0), 1);
        Due.is("restore(0)", x.restore(0), true);
        same("by the first once more", x, first);
        Due.is("not gone yet", x.scute(2, 0), 0);
        x.seed(4);
        x.move(1, 1);
        x.pay(1);
        x.days(6);
        Due.is("restore(0)", x.restore(0), true);
        same("behind other days", x, first);
        x.tie(1, true);
        Due.is("image()", x.image(), 2);
        x.restore(2);
        Due.is("tied by the third", x.house(1, 1), 1);
        x.restore(0);
        same("an image is not what is now", x, first);
    }

    /** The log of an image, where the draws lead elsewhere. */
    private static void imagesHoldTheLog() {
        TurtleBack x = Due.told(Due.PLAIN);
        x.seed(1);
        x.days(3);
        int[] firsts = new int[4];
        int[] seconds = new int[4];
        for (int t = 0; t < 4; t++) {
            firsts[t] = x.log(t, 0);
            seconds[t] = x.log(t, 1);
        }
        Due.is("image()", x.image(), 0);
        Due.tell(x, "");
        Due.is("an image is of the beast that stays", x.restore(0), true);
        TurtleBack y = Due.told(Due.PLAIN.replace("dives 3", "dives 30"));
        y.image();
        y.days(2);
        y.image();
        int was = y.log(1, 0);
        int second = y.log(1, 1);
        y.restore(0);
        y.seed(875);
        y.days(2);
        Due.is("another way", y.log(1, 0) != was || y.log(1, 1) != second, true);
        y.restore(1);
        Due.is("the log of the image", y.log(1, 0), was);
        Due.is("the log of the image", y.log(1, 1), second);
        for (int t = 0; t < 4; t++) {
            Due.is("first of day " + t, x.log(t, 0), firsts[t]);
            Due.is("second of day " + t, x.log(t, 1), seconds[t]);
        }
    }

    /** What isles bought, where families live, is of the image. */
    private static void imagesHoldIslesAndHomes() {
        TurtleBack x = Due.told(Due.PLAIN.replace("calm 5", "calm 0").replace("field on head itch 1;", ""));
        x.image();
        x.move(0, 0);
        x.days(2);
        Due.is("the isle bought", x.now(6), 1);
        Due.is("moved", x.family(0, 1), 0);
        x.image();
        x.restore(0);
        Due.is("not yet", x.now(6), 0);
        Due.is("at home", x.family(0, 1), 1);
        x.days(2);
        Due.is("COINS", x.now(4), 2 * 2 + 7);
        x.restore(1);
        Due.is("bought", x.now(6), 1);
        Due.is("moved", x.family(0, 1), 0);
    }

    private static void fourImagesAtMost() {
        TurtleBack x = Due.told(Due.PLAIN);
        for (int i = 0; i < 4; i++) {
            Due.is("image()", x.image(), i);
            x.days(1);
        }
        Due.refused(x, "image()", x.image(), -1, 3);
        Due.is("images", x.size(11), 4);
        Due.refused(x, "restore(-1)", x.restore(-1), 1);
        Due.refused(x, "restore(4)", x.restore(4), 1);
        Due.is("nothing is restored", x.size(7), 4);
        for (int i = 3; i >= 0; i--) {
            Due.is("restore(" + i + ")", x.restore(i), true);
            Due.is("DAYS", x.size(7), i);
        }
        Due.refused(x, "image()", x.image(), -1, 3);
        Due.tell(x, Due.PLAIN);
        Due.is("no images of a new beast", x.size(11), 0);
        Due.refused(x, "restore(0)", x.restore(0), 1);
        Due.is("image()", x.image(), 0);
        Due.refused(x, "restore(1)", x.restore(1), 1);
    }

    private static void theLostAreLed() {
        TurtleBack x = Due.told(Due.PLAIN);
        Due.is("none is lost", Due.led(x, 0), -1);
        x.tie(0, true);
        x.days(3);
        Due.is("the barn", Due.led(x, 0), 1);
        Due.is("no second", Due.led(x, 1), -1);
        Due.is("none ahead", Due.led(x, -1), -1);
        Due.is("none so far", Due.led(x, Integer.MAX_VALUE), -1);
        Due.is("none so far", Due.led(x, Integer.MIN_VALUE), -1);
        Due.is("no trouble is told of led", x.trouble(), 0);
    }

    private static void sizes() {
        TurtleBack x = Due.told(Due.PLAIN + ";field on left itch 2;weed at 0,0;weed at 0,1;isle r at 1,1 from 1 to 1 buys 1"
                + ";isle s at 1,1 from 1 to 1 buys 1;moult left day 99");
        int[] sizes = {3, 2, 2, 2, 3, 3, 1, 0, 0, 0, 0, 0, 0};
        for (int i = 0; i < sizes.length; i++) Due.is("size(" + i + ")", x.size(i), sizes[i]);
        Due.is("size(-1)", x.size(-1), -1);
        Due.is("size(13)", x.size(13), -1);
        Due.is("size(MIN)", x.size(Integer.MIN_VALUE), -1);
        Due.is("size(MAX)", x.size(Integer.MAX_VALUE), -1);
        x.days(7);
        x.seed(1234);
        x.feed(0, 0, 0, 0, 0);
        x.feed(0, 0, 0, 0, 0);
        x.seen(1, 2, 3);
        x.image();
        x.image();
        x.scrape(0);
        int[] later = {3, 2, 2, 2, 3, 3, 1, 7, 1234, 40, 1, 2, 1};
        for (int i = 0; i < later.length; i++) Due.is("size(" + i + ")", x.size(i), later[i]);
        x.move(9, 9);
        x.size(99);
        Due.is("no trouble is told of size", x.trouble(), 1);
    }

    /** Calls that can't be refused by a number leave the trouble; all others tell their own. */
    private static void troubleIsOfTheLatest() {
        TurtleBack x = Due.told(Due.PLAIN);
        Due.refused(x, "seed(-1)", x.seed(-1), 2);
        x.feed(1, 2, 3, 4, 5);
        x.fault();
        x.where();
        x.size(3);
        Due.led(x, 5);
        Due.is("trouble()", x.trouble(), 2);
        Due.is("trouble()", x.trouble(), 2);
        x.judge();
        Due.is("of judge()", x.trouble(), 0);
        x.now(99);
        Due.is("of now()", x.trouble(), 1);
        x.fits();
        Due.is("of fits()", x.trouble(), 0);
    }

    public static void main(String[] args) {
        imagesHoldAllAsItIs();
        imagesHoldTheLog();
        imagesHoldIslesAndHomes();
        fourImagesAtMost();
        theLostAreLed();
        sizes();
        troubleIsOfTheLatest();
        Due.end();
    }
}
