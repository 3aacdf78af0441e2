/** The three examples of the document. */
final class ExamplesTest {
    private static final Expect EXPECT = new Expect("examples");

    public static void main(String[] args) {
        postWithoutCar();
        carThatDoesNotCommunicate();
        wrongPatience();
        EXPECT.finish();
    }

    private static void writeAll(ChargePosts x, String text) {
        for (int i = 0; i < text.length(); i++) {
            EXPECT.due("write(" + (int) text.charAt(i) + ")", x.write(text.charAt(i)), i + 1);
        }
    }

    private static void postWithoutCar() {
        EXPECT.part("example 1");
        ChargePosts x = new ChargePosts();
        writeAll(x, "F051p3");
        EXPECT.due("site()", x.site(), 1);
        EXPECT.due("signed(0,2,30)", x.signed(0, 2, 30), 22);
        EXPECT.due("forged(0,1,0)", x.forged(0, 1, 0), 0);
        EXPECT.due("forged(0,3,22)", x.forged(0, 3, 22), 3);
        EXPECT.due("judge(1,805)", x.judge(1, 805), -9);
        EXPECT.due("chance(3,5,true)", x.chance(3, 5, true), 1);
        EXPECT.due("limit(99)", x.limit(99), 5);
        EXPECT.due("undo()", x.undo(), 0);
        EXPECT.due("drawn(5)", x.drawn(5), 0);
        EXPECT.due("plug(0,0)", x.plug(0, 0), -1);
    }

    private static void carThatDoesNotCommunicate() {
        EXPECT.part("example 2");
        ChargePosts x = new ChargePosts();
        writeAll(x, "F091p4c05402");
        EXPECT.due("site()", x.site(), 1);
        EXPECT.due("plug(0,0)", x.plug(0, 0), 1);
        EXPECT.due("minute(3)", x.minute(3), 2);
        EXPECT.due("post(0,9)", x.post(0, 9), 0);
    }

    private static void wrongPatience() {
        EXPECT.part("example 3");
        ChargePosts x = new ChargePosts();
        writeAll(x, "F09");
        EXPECT.due("fault()", x.fault(), 3);
        EXPECT.due("site()", x.site(), -3);
        EXPECT.due("write(48)", x.write(48), 4);
        EXPECT.due("fault()", x.fault(), 3);
        EXPECT.due("about(3)", x.about(3), 1);
        EXPECT.due("pull(0)", x.pull(0), -1);
        EXPECT.due("undo()", x.undo(), -3);
        EXPECT.due("least(41)", x.least(41), -2);
        EXPECT.due("least(0)", x.least(0), 0);
        EXPECT.due("which()", x.which(), 0);
        EXPECT.due("again(1)", x.again(1), -3);
        EXPECT.due("chance(1,0,true)", x.chance(1, 0, true), 1);
        EXPECT.due("judge(1,100)", x.judge(1, 100), 0);
    }
}
