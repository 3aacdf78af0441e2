/** Promises 25 to 28: share, chance, seed and drawn. */
final class SharesTest {
    private static final Expect EXPECT = new Expect("shares and chances");
    private static final int UNKNOWN = -1, BAD = -2;
    private static final long FACTOR = 6364136223846793005L, STEP = 1442695040888963407L;

    public static void main(String[] args) {
        promise25Alone();
        promise25Shared();
        promise25Signs();
        promise25States();
        promise26Chance();
        promise26Parts();
        promise26Errors();
        promise27Seed();
        promise28Drawn();
        promise28State();
        promise28Errors();
        EXPECT.finish();
    }

    private static void due(String call, long got, long want) {
        EXPECT.due(call, got, want);
    }

    private static void share(ChargePosts x, int post, int over, int under) {
        due("share(" + post + ", true)", x.share(post, true), over);
        due("share(" + post + ", false)", x.share(post, false), under);
    }

    private static void promise25Alone() {
        EXPECT.part("promise 25");
        ChargePosts x = Expect.ready("F991p9p9p9p9c20100c99900c21100");
        share(x, 0, 20, 1);
        share(x, 1, 99, 1);
        share(x, 2, 20, 1);
        share(x, 3, 0, 1);
        due("share(4, true)", x.share(4, true), UNKNOWN);
        due("share(-1, false)", x.share(-1, false), UNKNOWN);
        due("share(0, true) of no posts", new ChargePosts().share(0, true), UNKNOWN);
        due("minute", x.about(4), 0);
        due("meters", x.about(7), 0);
        due("acts", x.about(9), 14);
        x.minute(1);
        share(x, 0, 19, 1);
        share(x, 2, 20, 1);
    }

    private static void promise25Shared() {
        // Each of them takes 20 alone, and both together take 20.
        ChargePosts x = Expect.ready("F011p1p1c20100c20100");
        share(x, 0, 10, 1);
        share(x, 1, 10, 1);
        // 5 and 20 alone, 20 together: 5 or 0 for the first, 20 or 15 for the second.
        ChargePosts y = Expect.ready("F011p1p1c05100c90100");
        share(y, 0, 5, 2);
        share(y, 1, 35, 2);
        // The liar draws 4 and 3 alone, and 3 and 3 besides the plain car with its 3.
        ChargePosts z = Expect.ready("F039p7p4c06421c03600");
        share(z, 0, 13, 2);
        share(z, 1, 5, 2);
        // Any two or three of them take 20: 10 or 20 by the first place, then what is left.
        ChargePosts w = Expect.ready("F011p1p1p1c10100c20100c20100");
        share(w, 0, 10, 3);
        share(w, 1, 25, 3);
        share(w, 2, 25, 3);
    }

    /** The answers are those of Model, which goes through all 24 orders. */
    private static void promise25Signs() {
        share(Expect.ready("F069p2p8p5p7c01320c14820c13521c02911"), 0, -1, 12);
        share(Expect.ready("F049p7p6p8p3c02421c08700c05321c16800"), 0, 9, 4);
        share(Expect.ready("F029p4p2p5c17410c19721c01400"), 2, 5, 6);
        share(Expect.ready("F049p3p1p4p9c19321c20201c10821c01710"), 3, 5, 12);
    }

    private static void promise25States() {
        // A mute car is on in minute 3, and 18 minutes are left for it; a dead post's car gets nothing.
        ChargePosts x = Expect.built("F991p9p9c99902c99900c99900");
        x.plug(0, 0);
        x.plug(1, 1);
        x.say(1, 3);
        share(x, 0, 36, 1);
        share(x, 1, 0, 1);
        // With communication nobody dies of silence.
        share(Expect.ready("F991p4c99900"), 0, 80, 1);
        // The meters of before do not count.
        ChargePosts y = Expect.ready("F041p4p4c99900c99900");
        y.minute(1);
        share(y, 0, 40, 1);
        share(y, 1, 40, 1);
        share(Expect.ready("F001p4c99900"), 0, 0, 1);
    }

    private static void chance(ChargePosts x, int n, int tenths, int over, int under) {
        due("chance(" + n + ", " + tenths + ", true)", x.chance(n, tenths, true), over);
        due("chance(" + n + ", " + tenths + ", false)", x.chance(n, tenths, false), under);
    }

    private static void promise26Chance() {
        EXPECT.part("promise 26");
        ChargePosts x = Expect.ready("F991p1p1c99100c99100");
        chance(x, 1, 5, 1, 1);
        chance(x, 1, 10, 1, 1);
        chance(x, 2, 5, 1, 4);
        chance(x, 2, 3, 49, 100);
        chance(x, 2, 2, 16, 25);
        chance(x, 9, 2, 16, 25);
        chance(x, 2, 0, 1, 1);
        chance(x, 2, 10, 0, 1);
        due("minute", x.about(4), 0);
        due("acts", x.about(9), 10);
        chance(Expect.ready("F992p1c99100"), 2, 10, 1, 1);
        chance(Expect.ready("F992p1c99100"), 3, 10, 0, 1);
        chance(Expect.ready("F992p1p1p1c99100c99100c99100"), 3, 3, 343, 1000);
        chance(Expect.ready("F992p1p1p1p1c99100c99100c99100c99100"), 3, 3, 2401, 10000);
        chance(Expect.ready("F992p1p1p1p1c99100c99100c99100c99100"), 3, 9, 1, 10000);
        chance(Expect.ready("F999p1c99100"), 9, 10, 1, 1);
        chance(new ChargePosts(), 9, 5, 1, 1);
        chance(new ChargePosts(), 1, 10, 1, 1);
    }

    private static void promise26Parts() {
        // Only one of three posts can die of silence: one is free and one has a mute car.
        ChargePosts x = Expect.built("F991p1p1p1c99100c99102");
        x.plug(0, 0);
        x.plug(1, 1);
        chance(x, 2, 4, 3, 5);
        x.minute(1);
        chance(x, 1, 4, 3, 5);
        x.minute(1);
        chance(x, 1, 0, 0, 1);
        due("dead posts", x.about(6), 1);
        // A liar's post dies of its excess, unless it is silent before, which kills it, too.
        chance(Expect.ready("F999p1c99101"), 1, 7, 1, 1);
        chance(Expect.ready("F999p1c99101"), 2, 7, 0, 1);
        // As long as the plain car takes all that there is, the liar draws nothing and its post lives.
        chance(Expect.ready("F011p1p1c99110c99101"), 9, 5, 1, 4);
    }

    private static void promise26Errors() {
        ChargePosts x = Expect.ready("F991p1c99100");
        due("chance(0, 5, true)", x.chance(0, 5, true), BAD);
        due("chance(10, 5, true)", x.chance(10, 5, true), BAD);
        due("chance(5, -1, false)", x.chance(5, -1, false), BAD);
        due("chance(5, 11, false)", x.chance(5, 11, false), BAD);
        due("chance(0, 5, true) without posts", new ChargePosts().chance(0, 5, true), BAD);
    }

    private static void promise27Seed() {
        EXPECT.part("promise 27");
        ChargePosts x = new ChargePosts();
        due("seed(least long)", x.seed(Long.MIN_VALUE), 0);
        due("seed(greatest long)", x.seed(Long.MAX_VALUE), Long.MIN_VALUE);
        due("seed(-1)", x.seed(-1), Long.MAX_VALUE);
        due("seed(1)", x.seed(1), -1);
        due("acts", x.about(9), 0);
    }

    /** Does what drawn(m) says by acts on another object in the same state. */
    private static int steps(ChargePosts twin, long start, int m) {
        long s = start;
        int sum = 0;
        for (int i = 0; i < m; i++) {
            s = s * FACTOR + STEP;
            int v = (int) (s >>> 33);
            if (v / 4 % 7 == 6) {
                twin.minute(1);
            } else {
                twin.say(v % 4, v / 4 % 7);
            }
            sum += twin.about(7);
        }
        return sum;
    }

    private static void promise28Drawn() {
        EXPECT.part("promise 28");
        String text = "F073p5p3p9p4c20920c32411c30952c40800";
        for (int m = 1; m <= 20; m++) {
            ChargePosts x = Expect.ready(text);
            ChargePosts twin = Expect.ready(text);
            x.minute(2);
            twin.minute(2);
            x.seed(1000L * m);
            due("drawn(" + m + ")", x.drawn(m), steps(twin, 1000L * m, m));
        }
        ChargePosts none = new ChargePosts();
        due("drawn(20) without posts", none.drawn(20), 0);
        long s = 0;
        for (int i = 0; i < 20; i++) {
            s = s * FACTOR + STEP;
        }
        due("start number after 20 steps", none.seed(0), s);
    }

    private static void promise28State() {
        ChargePosts x = Expect.ready("F073p5p3p9p4c20920c32411c30952c40800");
        x.minute(2);
        int meters = x.about(7);
        int acts = x.about(9);
        for (int i = 0; i < 10; i++) {
            x.drawn(20);
            due("meters", x.about(7), meters);
            due("dead posts", x.about(6), 2);
            due("minute", x.about(4), 2);
            due("acts", x.about(9), acts);
        }
        x.seed(5);
        x.drawn(2);
        long middle = (5 * FACTOR + STEP) * FACTOR + STEP;
        x.drawn(1);
        due("start number after 2 and 1 steps", x.seed(0), middle * FACTOR + STEP);
    }

    private static void promise28Errors() {
        ChargePosts x = new ChargePosts();
        x.seed(9);
        due("drawn(0)", x.drawn(0), BAD);
        due("drawn(21)", x.drawn(21), BAD);
        due("drawn(-1)", x.drawn(-1), BAD);
        due("start number after errors", x.seed(0), 9);
    }
}
