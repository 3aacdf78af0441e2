/** The boundary cases of promise 21. */
final class JudgeEdgesTest {
    private static final Expect EXPECT = new Expect("edges of judge()");
    private static final int BAD = -2, NONE = -9;

    public static void main(String[] args) {
        promise21HowMany();
        promise21LeastAndGreatestRow();
        promise21LeadingZeros();
        promise21TheFirstWrongOne();
        promise21AnotherC();
        promise21Minutes();
        promise21Plug();
        promise21Pull();
        promise21Say();
        promise21Reset();
        promise21StateOfAPost();
        promise21RestOfACar();
        promise21Limit();
        promise21EachGoesOnFromTheOneBefore();
        promise21ThePresentStateStays();
        EXPECT.finish();
    }

    private static void judge(ChargePosts x, int n, int row, int want) {
        EXPECT.due("judge(" + n + ", " + row + ")", x.judge(n, row), want);
    }

    /** Four free posts, and six cars of the needs 5 to 10. */
    private static ChargePosts free() {
        return Expect.built("F992p9p9p9p9c05900c06900c07900c08900c09900c10900");
    }

    private static void promise21HowMany() {
        EXPECT.part("promise 21: 1 to 3");
        ChargePosts x = free();
        judge(x, 0, 0, BAD);
        judge(x, 1, 600, NONE);
        judge(x, 2, 600600, NONE);
        judge(x, 3, 600600600, NONE);
        judge(x, 4, 600600600, BAD);
        judge(x, -1, 0, BAD);
    }

    private static void promise21LeastAndGreatestRow() {
        EXPECT.part("promise 21: 0 to 10^(3 * n) - 1");
        ChargePosts x = free();
        judge(x, 1, -1, BAD);
        judge(x, 1, 0, 0);
        judge(x, 1, 999, 0);
        judge(x, 1, 1000, BAD);
        judge(x, 2, -1, BAD);
        judge(x, 2, 0, 0);
        judge(x, 2, 999999, 0);
        judge(x, 2, 1000000, BAD);
        judge(x, 3, -1, BAD);
        judge(x, 3, 0, 0);
        judge(x, 3, 999999999, 0);
        judge(x, 3, 1000000000, BAD);
    }

    private static void promise21LeadingZeros() {
        EXPECT.part("promise 21: the first one is in the most significant digits");
        ChargePosts x = free();
        judge(x, 1, 600, NONE);
        judge(x, 2, 600, 0);
        judge(x, 3, 600, 0);
        judge(x, 2, 600000, 1);
        judge(x, 3, 600000, 0);
        judge(x, 3, 600000600, 1);
        judge(x, 3, 600600000, 2);
    }

    private static void promise21TheFirstWrongOne() {
        EXPECT.part("promise 21: the index of the first one that is wrong");
        ChargePosts x = free();
        judge(x, 3, 601601601, 0);
        judge(x, 3, 601600600, 0);
        judge(x, 3, 600601601, 1);
        judge(x, 3, 600601600, 1);
        judge(x, 3, 600600601, 2);
        judge(x, 3, 200200200, 1);
    }

    private static void promise21AnotherC() {
        EXPECT.part("promise 21: another c, 0 and 9");
        ChargePosts x = free();
        for (int uv : new int[] {0, 1, 10, 99}) {
            judge(x, 1, uv, 0);
            judge(x, 1, 900 + uv, 0);
        }
    }

    private static void promise21Minutes() {
        EXPECT.part("promise 21: minute() of 1 to 99");
        ChargePosts x = Expect.built("F012p1c97102");
        x.plug(0, 0);
        judge(x, 1, 100, 0);
        judge(x, 1, 101, NONE);
        judge(x, 1, 110, NONE);
        judge(x, 1, 199, NONE);
        judge(x, 2, 199700, NONE);
        judge(x, 2, 198700, 1);
        judge(x, 2, 198701, NONE);
        judge(x, 2, 110709, 1);
        judge(x, 3, 190101708, NONE);
        judge(x, 3, 190101707, 2);
        judge(x, 2, 191708, NONE);
        judge(x, 2, 190708, 1);
    }

    private static void promise21Plug() {
        EXPECT.part("promise 21: plug() of the posts 0 to 3 and the cars 0 to 5");
        ChargePosts x = free();
        judge(x, 1, 200, NONE);
        judge(x, 1, 235, NONE);
        judge(x, 1, 236, 0);
        judge(x, 1, 209, 0);
        judge(x, 1, 240, 0);
        judge(x, 1, 290, 0);
        judge(x, 2, 235234, 1);
        judge(x, 2, 235225, 1);
        judge(x, 2, 235224, NONE);
    }

    private static void promise21Pull() {
        EXPECT.part("promise 21: pull() of the posts 0 to 3, where u must be 0");
        ChargePosts x = free();
        judge(x, 1, 300, 0);
        judge(x, 2, 235303, NONE);
        judge(x, 2, 205300, NONE);
        judge(x, 2, 235313, 1);
        judge(x, 2, 235393, 1);
        judge(x, 2, 235302, 1);
        judge(x, 2, 235304, 1);
        judge(x, 2, 235309, 1);
        judge(x, 3, 235303303, 2);
    }

    private static void promise21Say() {
        EXPECT.part("promise 21: say() of the messages 0 to 5");
        ChargePosts x = free();
        judge(x, 1, 400, 0);
        judge(x, 2, 235430, NONE);
        judge(x, 2, 235435, NONE);
        judge(x, 2, 235436, 1);
        judge(x, 2, 235439, 1);
        judge(x, 2, 235440, 1);
        judge(x, 2, 235420, 1);
        judge(x, 3, 200400400, NONE);
        judge(x, 3, 200401405, 2);
        ChargePosts mute = Expect.built("F992p9c05902");
        judge(mute, 2, 200404, 1);
    }

    private static void promise21Reset() {
        EXPECT.part("promise 21: reset() of a dead post, where u must be 0");
        ChargePosts x = free();
        judge(x, 1, 500, 0);
        judge(x, 3, 235431503, NONE);
        judge(x, 3, 235430503, 2);
        judge(x, 3, 235431513, 2);
        judge(x, 3, 235431593, 2);
        judge(x, 3, 235431502, 2);
        judge(x, 3, 235431504, 2);
        judge(x, 3, 205401500, NONE);
        // That other posts are dead, too, is no error.
        x.plug(0, 0);
        x.plug(1, 1);
        x.minute(3);
        judge(x, 1, 500, NONE);
        judge(x, 2, 500501, NONE);
        judge(x, 3, 500501500, 2);
    }

    private static void promise21StateOfAPost() {
        EXPECT.part("promise 21: the claim of a post's state, from 0 to 4");
        ChargePosts x = free();
        judge(x, 1, 600, NONE);
        judge(x, 1, 630, NONE);
        judge(x, 1, 640, 0);
        judge(x, 1, 690, 0);
        for (int v = 1; v <= 9; v++) {
            judge(x, 1, 600 + v, 0);
        }
        ChargePosts y = Expect.built("F991p9c50900");
        y.plug(0, 0);
        Expect.greet(y, 0);
        judge(y, 1, 602, NONE);
        judge(y, 2, 101603, NONE);
        judge(y, 2, 102604, NONE);
        judge(y, 2, 405601, NONE);
        judge(y, 2, 300600, NONE);
        judge(y, 1, 603, 0);
        judge(y, 2, 101602, 1);
        judge(y, 2, 102603, 1);
        judge(new ChargePosts(), 1, 600, 0);
    }

    private static void promise21RestOfACar() {
        EXPECT.part("promise 21: the claim of a car's rest, at most v");
        ChargePosts x = free();
        judge(x, 1, 704, 0);
        judge(x, 1, 705, NONE);
        judge(x, 1, 706, NONE);
        judge(x, 1, 709, NONE);
        judge(x, 1, 748, 0);
        judge(x, 1, 749, NONE);
        judge(x, 1, 759, 0);
        judge(x, 1, 760, 0);
        judge(x, 1, 769, 0);
        judge(x, 1, 799, 0);
        judge(x, 1, 700, 0);
        ChargePosts y = Expect.ready("F992p9c05900");
        judge(y, 2, 101700, NONE);
        judge(y, 3, 804101701, NONE);
        judge(y, 3, 804101700, 2);
        judge(new ChargePosts(), 1, 709, 0);
    }

    private static void promise21Limit() {
        EXPECT.part("promise 21: limit() of 0 to 99");
        ChargePosts x = Expect.ready("F052p9c09900");
        judge(x, 1, 800, NONE);
        judge(x, 1, 899, NONE);
        judge(x, 3, 800101709, NONE);
        judge(x, 3, 800101708, 2);
        judge(x, 3, 899101700, NONE);
        judge(x, 3, 809101700, NONE);
        judge(x, 3, 808101700, 2);
        judge(x, 3, 810101700, NONE);
        judge(x, 3, 801101707, 2);
        // 10 are given to both cars, of which one behind the other needs 1.
        ChargePosts y = Expect.ready("F002p9p9c09900c01900");
        judge(y, 1, 800, NONE);
        judge(y, 1, 805, NONE);
        judge(y, 3, 810101700, NONE);
        judge(y, 3, 809101700, 2);
    }

    private static void promise21EachGoesOnFromTheOneBefore() {
        EXPECT.part("promise 21: a sequence, without communication");
        ChargePosts x = Expect.ready("F991p9c50900");
        judge(x, 3, 101101603, 2);
        judge(x, 3, 101101604, NONE);
        judge(x, 3, 101404101, NONE);
        judge(x, 3, 102404101, 1);
        judge(x, 3, 102500601, NONE);
        judge(x, 3, 300300200, 1);
        judge(x, 3, 300200601, NONE);
    }

    private static void promise21ThePresentStateStays() {
        EXPECT.part("promise 21: the present state does not change, whatever the answer is");
        ChargePosts x = free();
        for (int i = 0; i < 3; i++) {
            judge(x, 3, 235303235, NONE);
            judge(x, 3, 800199235, NONE);
            judge(x, 3, 235431900, 2);
        }
        int[] want = {4, 6, 99, 2, 0, 0, 0, 0, 45, 0, 0, 48};
        for (int what = 0; what < 12; what++) {
            EXPECT.due("about(" + what + ")", x.about(what), want[what]);
        }
        EXPECT.due("car of post 3", x.post(3, 1), NONE);
        EXPECT.due("post of car 5", x.car(5, 5), NONE);
    }
}
