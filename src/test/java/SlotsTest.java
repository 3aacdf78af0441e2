/** Promises 29 and 30: keep and again. */
final class SlotsTest {
    private static final Expect EXPECT = new Expect("slots");
    private static final int UNKNOWN = -1, LATE = -3, NONE = -9;

    public static void main(String[] args) {
        promise29Keep();
        promise30Again();
        promise30WholeState();
        promise30Errors();
        EXPECT.finish();
    }

    private static void due(String call, long got, long want) {
        EXPECT.due(call, got, want);
    }

    private static void promise29Keep() {
        EXPECT.part("promise 29");
        ChargePosts x = new ChargePosts();
        due("keep(0)", x.keep(0), 0);
        x.minute(5);
        due("keep(1)", x.keep(1), 5);
        due("acts", x.about(9), 1);
        due("undo()", x.undo(), 0);
        due("keep(-1)", x.keep(-1), UNKNOWN);
        due("keep(2)", x.keep(2), UNKNOWN);
        due("again(1)", x.again(1), 5);
        x.minute(2);
        due("keep(1) in place of what was there", x.keep(1), 7);
        due("again(0)", x.again(0), 0);
        due("again(1)", x.again(1), 7);
    }

    private static void promise30Again() {
        EXPECT.part("promise 30");
        ChargePosts x = new ChargePosts();
        x.limit(1);
        x.keep(0);
        x.limit(2);
        x.minute(3);
        due("again(0)", x.again(0), 0);
        due("limit", x.about(2), 1);
        due("acts", x.about(9), 0);
        due("undo()", x.undo(), LATE);
        x.limit(4);
        x.minute(1);
        due("undo() of what came then", x.undo(), 1);
        due("again(0), as it stays saved", x.again(0), 0);
        due("limit", x.about(2), 1);
        x.minute(9);
        due("keep(1)", x.keep(1), 9);
        due("again(0)", x.again(0), 0);
        due("again(1)", x.again(1), 9);
    }

    private static void promise30WholeState() {
        ChargePosts x = Expect.built("F073p5p3p9c20920c12411c30952");
        for (int post = 0; post < 3; post++) {
            x.plug(post, post);
            Expect.greet(x, post);
        }
        x.minute(3);
        x.keep(1);
        int[] before = all(x);
        x.seed(5);
        x.see(0, 1, 1);
        x.write('p');
        x.pull(0);
        x.reset(1);
        x.say(1, 0);
        x.limit(99);
        x.plug(0, 1);
        x.minute(50);
        due("again(1)", x.again(1), 3);
        int[] after = all(x);
        for (int i = 0; i < before.length; i++) {
            due("number " + i + " of the state", after[i], before[i]);
        }
        due("start number", x.seed(0), 5);
        due("observations", x.about(10), 1);
        due("length of the text", x.about(11), 29);
        due("state of post 1", x.post(1, 2), 4);
        due("car of post 0", x.post(0, 1), 0);
        due("rest of car 0", x.car(0, 4), 5);
    }

    /** What belongs to the state: 8 numbers for each post, the rests, the limit and the minute. */
    private static int[] all(ChargePosts x) {
        int[] all = new int[3 * 8 + 3 + 2];
        int n = 0;
        for (int post = 0; post < 3; post++) {
            for (int what = 1; what < 9; what++) {
                all[n++] = x.post(post, what);
            }
        }
        for (int car = 0; car < 3; car++) {
            all[n++] = x.car(car, 4);
        }
        all[n++] = x.about(2);
        all[n] = x.about(4);
        return all;
    }

    private static void promise30Errors() {
        ChargePosts x = Expect.built("F011p1c10100");
        due("again(0)", x.again(0), LATE);
        due("again(1)", x.again(1), LATE);
        due("again(2)", x.again(2), UNKNOWN);
        due("again(-1)", x.again(-1), UNKNOWN);
        x.minute(2);
        x.keep(1);
        x.plug(0, 0);
        due("again(0), as only 1 is saved", x.again(0), LATE);
        due("acts", x.about(9), 2);
        due("car", x.post(0, 1), 0);
        due("again(1)", x.again(1), 2);
        due("car", x.post(0, 1), NONE);
        x.site();
        due("again(1) after site()", x.again(1), LATE);
    }
}
