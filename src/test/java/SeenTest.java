/** Promises 22 to 24: see, unsee and which. */
final class SeenTest {
    private static final Expect EXPECT = new Expect("seen");
    private static final int UNKNOWN = -1, BAD = -2, FULL = -4;

    public static void main(String[] args) {
        promise22See();
        promise22Errors();
        promise23Unsee();
        promise24Which();
        promise24Minutes();
        promise24Mute();
        promise24Gone();
        promise24From();
        EXPECT.finish();
    }

    private static void due(String call, long got, long want) {
        EXPECT.due(call, got, want);
    }

    /** A plain car and a liar, both ready and given 3 a minute, and a mute car at no post. */
    private static ChargePosts both() {
        ChargePosts x = Expect.built("F991p9p9p9c30300c30301c09202");
        for (int post = 0; post < 2; post++) {
            x.plug(post, post);
            Expect.greet(x, post);
        }
        return x;
    }

    private static void promise22See() {
        EXPECT.part("promise 22");
        ChargePosts x = both();
        due("see(0, 0, 0)", x.see(0, 0, 0), 1);
        due("see(2, 20, 999)", x.see(2, 20, 999), 2);
        due("see(2, 20, 999) again", x.see(2, 20, 999), 3);
        due("see(1, 7, 5)", x.see(1, 7, 5), 4);
        due("see(1, 7, 6)", x.see(1, 7, 6), 5);
        due("see(0, 1, 3)", x.see(0, 1, 3), 6);
        due("see(0, 2, 3), the seventh", x.see(0, 2, 3), FULL);
        due("about(10)", x.about(10), 6);
        due("see(0, 21, 3), full", x.see(0, 21, 3), BAD);
        due("see(3, 1, 3), full", x.see(3, 1, 3), UNKNOWN);
        due("acts", x.about(9), 10);
    }

    private static void promise22Errors() {
        ChargePosts x = both();
        due("see(3, 1, 3)", x.see(3, 1, 3), UNKNOWN);
        due("see(-1, 1, 3)", x.see(-1, 1, 3), UNKNOWN);
        due("see(3, 21, 3)", x.see(3, 21, 3), UNKNOWN);
        due("see(0, -1, 3)", x.see(0, -1, 3), BAD);
        due("see(0, 21, 3)", x.see(0, 21, 3), BAD);
        due("see(0, 1, -1)", x.see(0, 1, -1), BAD);
        due("see(0, 1, 1000)", x.see(0, 1, 1000), BAD);
        due("about(10)", x.about(10), 0);
        due("which()", x.which(), 7);
    }

    private static void promise23Unsee() {
        EXPECT.part("promise 23");
        ChargePosts x = both();
        due("unsee() of nothing", x.unsee(), 0);
        x.see(0, 1, 999);
        x.see(0, 2, 999);
        due("which() before", x.which(), 0);
        due("unsee()", x.unsee(), 2);
        due("unsee() again", x.unsee(), 0);
        due("about(10)", x.about(10), 0);
        due("which() after", x.which(), 7);
        due("see() after", x.see(0, 1, 3), 1);
    }

    private static void promise24Which() {
        EXPECT.part("promise 24");
        ChargePosts x = both();
        due("which() without observations", x.which(), 7);
        due("which() without cars", new ChargePosts().which(), 0);
        x.see(0, 1, 3);
        due("which(), post 0 was honest", x.which(), 6);
        x.see(1, 1, 4);
        due("which(), post 1 was not", x.which(), 6);
        x.unsee();
        x.see(0, 1, 4);
        due("which(), post 0 was not honest", x.which(), 1);
        x.see(1, 1, 4);
        due("which(), and post 1 neither", x.which(), 1);
        x.see(1, 1, 3);
        due("which(), which no liar explains", x.which(), 0);
        x.unsee();
        x.see(1, 1, 3);
        due("which(), as a liar stays one", x.which(), 0);
        due("minute", x.about(4), 0);
        due("acts", x.about(9), 10);
        due("kind", x.car(0, 3), 0);
    }

    private static void promise24Minutes() {
        ChargePosts x = both();
        x.see(0, 0, 0);
        due("which(), of now", x.which(), 7);
        x.see(0, 5, 15);
        due("which(), with communication", x.which(), 6);
        x.unsee();
        x.see(0, 20, 8);
        due("which(), dead after two excesses", x.which(), 1);
        x.see(0, 2, 8);
        due("which(), in minute 2", x.which(), 1);
        x.see(0, 1, 4);
        due("which(), in minute 1", x.which(), 1);
        x.see(1, 20, 8);
        due("which(), of post 1", x.which(), 1);
        x.see(2, 19, 0);
        due("which(), of the free post", x.which(), 1);
        x.see(2, 20, 1);
        due("which(), of the free post, wrongly", x.which(), 0);
        x.unsee();
        x.see(0, 20, 30);
        due("which(), charged", x.which(), 6);
        x.unsee();
        x.see(0, 9, 27);
        x.see(0, 10, 30);
        due("which(), in minutes 9 and 10", x.which(), 6);
    }

    private static void promise24Mute() {
        ChargePosts x = Expect.built("F991p9p9c90502c90900");
        x.plug(0, 0);
        x.see(0, 3, 2);
        due("which() of a mute car", x.which(), 2);
        x.unsee();
        x.see(0, 3, 0);
        x.see(0, 20, 0);
        due("a liar at a plugged post gets nothing", x.which(), 1);
        x.unsee();
        x.minute(3);
        x.see(0, 0, 2);
        x.see(0, 1, 4);
        due("a mute car that is on", x.which(), 2);
        x.unsee();
        x.see(0, 1, 8);
        due("as a liar it is given more than 2", x.which(), 1);
    }

    private static void promise24Gone() {
        ChargePosts x = both();
        x.see(2, 0, 5);
        due("which() with a wrong observation", x.which(), 0);
        x.wipe();
        Expect.write(x, "F991p9p9c30300");
        x.site();
        due("observations", x.about(10), 1);
        due("which(), when the post is gone", x.which(), 1);
        x.see(1, 0, 1);
        due("which(), of a post that is there", x.which(), 0);
        x.wipe();
        Expect.write(x, "F991p9p9p9c30300");
        x.site();
        x.unsee();
        x.see(2, 0, 0);
        x.see(1, 0, 0);
        due("which(), of three posts again", x.which(), 1);
    }

    private static void promise24From() {
        ChargePosts x = both();
        x.minute(1);
        x.see(0, 1, 6);
        due("from the present state", x.which(), 6);
        x.see(1, 1, 8);
        due("and of the second excess", x.which(), 6);
        x.unsee();
        x.see(0, 1, 7);
        x.see(0, 2, 11);
        due("a liar from now on", x.which(), 1);
        x.undo();
        due("from the state before", x.which(), 0);
    }
}
