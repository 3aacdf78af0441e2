/** Promises 1 to 8: a new object, the text, the site, and what can be asked of posts and cars. */
final class SiteTest {
    private static final Expect EXPECT = new Expect("site");
    private static final int UNKNOWN = -1, BAD = -2, LATE = -3, FULL = -4, NONE = -9;

    public static void main(String[] args) {
        constants();
        promise1New();
        promise2Write();
        promise3Wipe();
        promise4Fault();
        promise4FaultOfParts();
        promise5Site();
        promise5SiteKeeps();
        promise5Late();
        promise6About();
        promise7Post();
        promise8Car();
        EXPECT.finish();
    }

    private static void due(String call, long got, long want) {
        EXPECT.due(call, got, want);
    }

    private static void constants() {
        EXPECT.part("constants");
        due("UNKNOWN", ChargePosts.UNKNOWN, UNKNOWN);
        due("BAD", ChargePosts.BAD, BAD);
        due("LATE", ChargePosts.LATE, LATE);
        due("FULL", ChargePosts.FULL, FULL);
        due("NONE", ChargePosts.NONE, NONE);
    }

    private static void promise1New() {
        EXPECT.part("promise 1");
        ChargePosts x = new ChargePosts();
        int[] want = {0, 0, 0, 1, 0, 0, 0, 0, 0, 0, 0, 0};
        for (int what = 0; what < want.length; what++) {
            due("about(" + what + ")", x.about(what), want[what]);
        }
        due("fault()", x.fault(), 0);
        due("post(0, 0)", x.post(0, 0), UNKNOWN);
        due("car(0, 0)", x.car(0, 0), UNKNOWN);
        due("undo()", x.undo(), LATE);
        due("again(0)", x.again(0), LATE);
        due("again(1)", x.again(1), LATE);
        due("unsee()", x.unsee(), 0);
        due("seed(5)", x.seed(5), 0);
        due("limit(7)", x.limit(7), 0);
    }

    private static void promise2Write() {
        EXPECT.part("promise 2");
        ChargePosts x = new ChargePosts();
        due("write(-1)", x.write(-1), BAD);
        due("write(256)", x.write(256), BAD);
        due("write(least int)", x.write(Integer.MIN_VALUE), BAD);
        due("about(11) after errors", x.about(11), 0);
        due("write(0)", x.write(0), 1);
        due("write(255)", x.write(255), 2);
        for (int n = 3; n <= 70; n++) {
            due("write(" + n + ")", x.write(n), n);
        }
        due("write(48) to 70 bytes", x.write(48), FULL);
        due("write(256) to 70 bytes", x.write(256), BAD);
        due("write(-1) to 70 bytes", x.write(-1), BAD);
        due("about(11)", x.about(11), 70);
        due("wipe()", x.wipe(), 70);
        due("write(48) after wipe()", x.write(48), 1);
    }

    private static void promise3Wipe() {
        EXPECT.part("promise 3");
        ChargePosts x = Expect.written("F101p1");
        due("wipe()", x.wipe(), 6);
        due("wipe() again", x.wipe(), 0);
        due("about(11)", x.about(11), 0);
        due("fault()", x.fault(), 0);
        Expect.write(x, "F10");
        due("fault() of a shorter text", x.fault(), 3);
        due("site() of a shorter text", x.site(), LATE);
        Expect.write(x, "1");
        due("site() without the old parts", x.site(), 0);
    }

    private static void fault(String text, int want) {
        due("fault() of \"" + text + "\"", Expect.written(text).fault(), want);
    }

    private static void promise4Fault() {
        EXPECT.part("promise 4");
        String good = "F101c01102";
        int[] early = {0, 1, 2, 3, NONE, 5, 6, 7, 8, 9, NONE};
        for (int n = 0; n < early.length; n++) {
            fault(good.substring(0, n), early[n]);
        }
        for (String text : new String[] {"F001", "F999", "F101p1", "F101p9", "F101c99992", "F101c10100"}) {
            fault(text, NONE);
        }
        for (String text : new String[] {"x", "f101", "101", "\0", "p1", "\u00ff"}) {
            fault(text, 0);
        }
        fault("Fx", 1);
        fault("F/01", 1);
        fault("F:01", 1);
        fault("F1x", 2);
        fault("F1/1", 2);
        fault("F1:1", 2);
        fault("F10x", 3);
        fault("F100", 3);
        fault("F10:", 3);
        fault("Fx0x", 1);
        fault("F101x", 4);
        fault("F101P1", 4);
        fault("F101C01102", 4);
        fault("F101F", 4);
        fault("F1010", 4);
    }

    private static void promise4FaultOfParts() {
        fault("F101p", 5);
        fault("F101p0", 5);
        fault("F101p:", 5);
        fault("F101pp1", 5);
        fault("F101p1 ", 6);
        fault("F101cx1102", 5);
        fault("F101c:1102", 5);
        fault("F101c00", 6);
        fault("F101c00102", 6);
        fault("F101c1x102", 6);
        fault("F101c1:102", 6);
        fault("F101c01002", 7);
        fault("F101c01:02", 7);
        fault("F101c011:2", 8);
        fault("F101c011/2", 8);
        fault("F101c01103", 9);
        fault("F101c0110/", 9);
        fault("F101c01102x", 10);
        fault("F101p1c01102p2c20900p3p4", NONE);
        fault("F101p1p2p3p4p", 12);
        fault("F101p1p2p3p4p5", 12);
        fault("F101p1p2c01100p3p4p5", 18);
        String six = "F101c01100c01100c01100c01100c01100c01100";
        fault(six, NONE);
        fault(six + "c", 40);
        fault(six + "c01100", 40);
        fault(six + "p1p2p3p4", NONE);
        fault(six + "p1p2p3p4p", 48);
        fault(six + "p1p2p3p4" + "x".repeat(22), 48);
        fault(six + "p1p2p3p4" + "p1".repeat(11), 48);
    }

    private static void promise5Site() {
        EXPECT.part("promise 5");
        ChargePosts x = Expect.written("F123p4c05102p6c99910p1");
        due("site()", x.site(), 3);
        int[] about = {3, 2, 12, 3, 0, 0, 0, 0, 104, 0, 0, 22};
        for (int what = 0; what < about.length; what++) {
            due("about(" + what + ")", x.about(what), about[what]);
        }
        int[] amps = {4, 6, 1};
        for (int post = 0; post < 3; post++) {
            int[] want = {amps[post], NONE, 0, 0, 0, 0, 0, 0, 0, NONE};
            for (int what = 0; what < want.length; what++) {
                due("post(" + post + ", " + what + ")", x.post(post, what), want[what]);
            }
        }
        int[][] cars = {{5, 1, 0, 2, 5, NONE}, {99, 9, 1, 0, 99, NONE}};
        for (int car = 0; car < 2; car++) {
            for (int what = 0; what < 6; what++) {
                due("car(" + car + ", " + what + ")", x.car(car, what), cars[car][what]);
            }
        }
    }

    private static void promise5SiteKeeps() {
        ChargePosts x = Expect.built("F091p4c05401c08300p2");
        x.plug(0, 0);
        Expect.greet(x, 0);
        x.minute(2);
        x.plug(1, 1);
        x.limit(50);
        x.keep(0);
        x.keep(1);
        x.see(1, 2, 3);
        x.seed(77);
        x.drawn(1);
        due("site() again", x.site(), 2);
        int[] about = {2, 2, 9, 1, 0, 0, 0, 0, 13, 0, 1, 20};
        for (int what = 0; what < about.length; what++) {
            due("about(" + what + ") again", x.about(what), about[what]);
        }
        for (int what = 2; what < 9; what++) {
            due("post(0, " + what + ") again", x.post(0, what), 0);
        }
        due("post(0, 1) again", x.post(0, 1), NONE);
        due("car(0, 4) again", x.car(0, 4), 5);
        due("car(1, 5) again", x.car(1, 5), NONE);
        due("undo()", x.undo(), LATE);
        due("again(0)", x.again(0), LATE);
        due("again(1)", x.again(1), LATE);
        due("seed(0)", x.seed(0), 77L * 6364136223846793005L + 1442695040888963407L);
        x.wipe();
        Expect.write(x, "F005c01100p7");
        due("site() of a smaller text", x.site(), 1);
        due("about(8), without the cars of before", x.about(8), 1);
        due("post(1, 0), which is gone", x.post(1, 0), UNKNOWN);
        due("car(1, 0), which is gone", x.car(1, 0), UNKNOWN);
    }

    private static void promise5Late() {
        ChargePosts x = Expect.built("F091p4c05400");
        x.plug(0, 0);
        x.keep(1);
        x.minute(1);
        x.write('x');
        due("site() with a fault", x.site(), LATE);
        due("about(4)", x.about(4), 1);
        due("about(9)", x.about(9), 2);
        due("post(0, 1)", x.post(0, 1), 0);
        due("again(1)", x.again(1), 0);
        due("about(11)", x.about(11), 13);
        x.wipe();
        due("site() of an empty text", x.site(), LATE);
        due("about(0), as before", x.about(0), 1);
    }

    private static void promise6About() {
        EXPECT.part("promise 6");
        ChargePosts x = busy();
        x.minute(3);
        x.see(0, 0, 15);
        x.limit(8);
        int[] want = {3, 3, 8, 3, 3, 5, 2, 23, 5 + 6 + 28, 13, 1, 28};
        for (int what = 0; what < want.length; what++) {
            due("about(" + what + ")", x.about(what), want[what]);
        }
        due("about(-1)", x.about(-1), BAD);
        due("about(12)", x.about(12), BAD);
        due("about(greatest int)", x.about(Integer.MAX_VALUE), BAD);
        x.minute(1);
        due("about(4) after a minute", x.about(4), 4);
        due("about(5) after a minute", x.about(5), 4);
        due("about(6) after a minute", x.about(6), 3);
        due("about(7) after a minute", x.about(7), 25);
        x.pull(1);
        due("about(6) after pull()", x.about(6), 1);
        due("about(8) after pull()", x.about(8), 5 + 6 + 26);
    }

    /**
     * Three cars at three posts: a plain one and a liar who have said the messages 0 to 3, and a mute one.
     * The plain one is given 5 a minute and dies of silence in minute 4; the liar draws 3 in minutes 1 and
     * 2 and dies of it; the mute one is ready in minute 2 and draws 2 a minute from minute 3 on.
     */
    private static ChargePosts busy() {
        ChargePosts x = Expect.built("F073p5p3p9c20920c12411c30952");
        for (int post = 0; post < 3; post++) {
            x.plug(post, post);
            Expect.greet(x, post);
        }
        return x;
    }

    private static void promise7Post() {
        EXPECT.part("promise 7");
        ChargePosts x = busy();
        x.minute(1);
        int[] liar = {3, 1, 3, 4, 1, 0, 1, 3, 7 * 3 + 2, 1};
        for (int what = 0; what < 10; what++) {
            due("post(1, " + what + ") after 1 minute", x.post(1, what), liar[what]);
        }
        x.minute(2);
        int[][] want = {
            {5, 0, 3, 4, 3, 0, 0, 15, 5829, 1},
            {3, 1, 4, 4, 2, 0, 0, 6, 31 * 23 + 23, NONE},
            {9, 2, 3, 0, 0, 2, 0, 2, 7 * 2 + 3, 0}};
        for (int post = 0; post < 3; post++) {
            for (int what = 0; what < 10; what++) {
                due("post(" + post + ", " + what + ")", x.post(post, what), want[post][what]);
            }
        }
        due("post(3, 0)", x.post(3, 0), UNKNOWN);
        due("post(-1, 0)", x.post(-1, 0), UNKNOWN);
        due("post(4, 0)", x.post(4, 0), UNKNOWN);
        due("post(3, 10)", x.post(3, 10), UNKNOWN);
        due("post(0, -1)", x.post(0, -1), BAD);
        due("post(0, 10)", x.post(0, 10), BAD);
    }

    private static void promise8Car() {
        EXPECT.part("promise 8");
        ChargePosts x = busy();
        x.minute(3);
        x.pull(1);
        int[][] want = {{20, 9, 2, 0, 5, 0}, {12, 4, 1, 1, 6, NONE}, {30, 9, 5, 2, 28, 2}};
        for (int car = 0; car < 3; car++) {
            for (int what = 0; what < 6; what++) {
                due("car(" + car + ", " + what + ")", x.car(car, what), want[car][what]);
            }
        }
        due("car(3, 0)", x.car(3, 0), UNKNOWN);
        due("car(-1, 0)", x.car(-1, 0), UNKNOWN);
        due("car(6, 0)", x.car(6, 0), UNKNOWN);
        due("car(3, 6)", x.car(3, 6), UNKNOWN);
        due("car(0, -1)", x.car(0, -1), BAD);
        due("car(0, 6)", x.car(0, 6), BAD);
    }
}
