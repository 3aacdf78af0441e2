/** The boundary cases of promises 16 to 20; those of promise 21 are in JudgeEdgesTest. */
final class AskedEdgesTest {
    private static final Expect EXPECT = new Expect("edges of what is asked");
    private static final int UNKNOWN = -1, BAD = -2, NONE = -9;
    private static final int STATE = 2, SILENCE = 4, METER = 7, INDEX = 9;

    public static void main(String[] args) {
        promise16LeastAndGreatestN();
        promise16FirstAndLastNumber();
        promise16FirstAndLastPost();
        promise16NoneIsNoError();
        promise16SilenceWithAndWithoutTalk();
        promise16IndexThen();
        promise17NoMinuteAndOne();
        promise17The99thMinuteAndThe100th();
        promise17AtNoPostAndAtADeadOne();
        promise17FirstAndLastCar();
        promise18LeastAndGreatestN();
        promise18The40thMinute();
        promise18NoCarAtAPost();
        promise18TheLimitZeroAndTheGreatest();
        promise18SetNow();
        promise18WithCommunication();
        promise19EachLength();
        promise19ZerosInEachPlace();
        promise19SignsAtTheWrap();
        promise19FirstAndLastPost();
        promise20EachLength();
        promise20LeastAndGreatestSign();
        promise20LeastOfManyRows();
        promise20EachRow();
        promise20FirstAndLastPost();
        EXPECT.finish();
    }

    private static void due(String call, long got, long want) {
        EXPECT.due(call, got, want);
    }

    // ---- promise 16

    private static void promise16LeastAndGreatestN() {
        EXPECT.part("promise 16: 0 to 99 minutes");
        ChargePosts x = Expect.ready("F011p1c99100");
        due("ahead(-1)", x.ahead(-1, true, 0, METER), BAD);
        due("ahead(0)", x.ahead(0, true, 0, METER), 0);
        due("ahead(1)", x.ahead(1, true, 0, METER), 1);
        due("ahead(98)", x.ahead(98, true, 0, METER), 98);
        due("ahead(99)", x.ahead(99, true, 0, METER), 99);
        due("ahead(100)", x.ahead(100, true, 0, METER), BAD);
        due("ahead(99), without talk", x.ahead(99, false, 0, METER), 1);
        due("meter now", x.post(0, METER), 0);
    }

    private static void promise16FirstAndLastNumber() {
        EXPECT.part("promise 16: what from 1 to 9; after 0 minutes it is what post() says");
        ChargePosts x = Worlds.busy();
        for (int post = 0; post < 4; post++) {
            due("ahead(0, true, " + post + ", 0)", x.ahead(0, true, post, 0), BAD);
            for (int what = 1; what <= 9; what++) {
                due("ahead(0, true, " + post + ", " + what + ")", x.ahead(0, true, post, what), x.post(post, what));
                due("ahead(0, false, " + post + ", " + what + ")", x.ahead(0, false, post, what), x.post(post, what));
            }
            due("ahead(0, true, " + post + ", 10)", x.ahead(0, true, post, 10), BAD);
        }
    }

    private static void promise16FirstAndLastPost() {
        EXPECT.part("promise 16: the first and the last post");
        ChargePosts x = Expect.ready("F991p1p2p3p4c99900c99900c99900c99900");
        due("ahead() of post -1", x.ahead(1, true, -1, METER), UNKNOWN);
        due("ahead() of post 0", x.ahead(1, true, 0, METER), 1);
        due("ahead() of post 3", x.ahead(1, true, 3, METER), 4);
        due("ahead() of post 4", x.ahead(1, true, 4, METER), UNKNOWN);
        due("ahead() of post 4, wrong n", x.ahead(100, true, 4, METER), UNKNOWN);
        due("ahead() of post 4, wrong number", x.ahead(1, true, 4, 10), UNKNOWN);
    }

    private static void promise16NoneIsNoError() {
        EXPECT.part("promise 16: BAD before NONE");
        ChargePosts x = Expect.built("F991p1");
        due("ahead(99) of the car", x.ahead(99, true, 0, 1), NONE);
        due("ahead(99) of the index", x.ahead(99, true, 0, INDEX), NONE);
        due("ahead(100) of the car", x.ahead(100, true, 0, 1), BAD);
        due("ahead(-1) of the index", x.ahead(-1, true, 0, INDEX), BAD);
    }

    private static void promise16SilenceWithAndWithoutTalk() {
        EXPECT.part("promise 16: the silence at the patience and above it, with talk and without it");
        ChargePosts x = Expect.ready("F013p1c99100");
        due("state after the patience", x.ahead(3, false, 0, STATE), 3);
        due("silence after the patience", x.ahead(3, false, 0, SILENCE), 3);
        due("state after one more", x.ahead(4, false, 0, STATE), 4);
        due("silence after one more", x.ahead(4, false, 0, SILENCE), 4);
        due("silence long after it", x.ahead(99, false, 0, SILENCE), 4);
        due("silence with talk", x.ahead(99, true, 0, SILENCE), 0);
        x.minute(3);
        due("from the patience on, without talk", x.ahead(1, false, 0, STATE), 4);
        due("from the patience on, with talk", x.ahead(1, true, 0, STATE), 3);
        due("the silence stays with talk", x.ahead(50, true, 0, SILENCE), 3);
        due("the last minute on, with talk", x.ahead(96, true, 0, STATE), 3);
        due("charged, with talk", x.ahead(97, true, 0, STATE), 2);
    }

    private static void promise16IndexThen() {
        EXPECT.part("promise 16: the index in the order of then");
        ChargePosts x = Expect.ready("F051p9p9c09900c07900");
        due("nobody is on", x.ahead(0, true, 0, INDEX), NONE);
        // 4 and 1 in the first minute leave 5 and 6, then 1 and 4 leave 4 and 2.
        due("post 0 after 1", x.ahead(1, true, 0, INDEX), 1);
        due("post 1 after 1", x.ahead(1, true, 1, INDEX), 0);
        due("post 0 after 2", x.ahead(2, true, 0, INDEX), 0);
        due("post 1 after 2", x.ahead(2, true, 1, INDEX), 1);
    }

    // ---- promise 17

    private static void promise17NoMinuteAndOne() {
        EXPECT.part("promise 17: 0 minutes, and 1");
        ChargePosts x = Expect.ready("F991p9c09900");
        due("done(0)", x.done(0), 1);
        x.minute(1);
        due("done(0), charged", x.done(0), 0);
        due("10 takes 2", Expect.ready("F991p9c10900").done(0), 2);
        due("a liar's 10 takes 1", Expect.ready("F991p9c10901").done(0), 1);
    }

    private static void promise17The99thMinuteAndThe100th() {
        EXPECT.part("promise 17: at most 99 minutes");
        due("99 by 1 a minute", Expect.ready("F011p1c99100").done(0), 99);
        due("98 behind another one's 1", Expect.ready("F011p1p1c98100c01110").done(0), 99);
        due("99 behind another one's 1", Expect.ready("F011p1p1c99100c01110").done(0), NONE);
        due("97 after 2 minutes of a mute one", Expect.ready("F011p1c97102").done(0), 99);
        due("98 after 2 minutes of a mute one", Expect.ready("F011p1c98102").done(0), NONE);
    }

    private static void promise17AtNoPostAndAtADeadOne() {
        EXPECT.part("promise 17: a car at no post and at a dead one");
        ChargePosts x = Expect.built("F991p9c01900");
        due("at no post", x.done(0), NONE);
        x.plug(0, 0);
        due("plugged", x.done(0), NONE);
        Expect.greet(x, 0);
        due("ready", x.done(0), 1);
        x.say(0, 3);
        due("at a dead post", x.done(0), NONE);
        x.reset(0);
        Expect.greet(x, 0);
        x.minute(1);
        x.say(0, 3);
        due("charged at a dead post", x.done(0), 0);
        x.pull(0);
        due("charged at no post", x.done(0), 0);
        due("the limit of 0", Expect.ready("F001p9c01900").done(0), NONE);
    }

    private static void promise17FirstAndLastCar() {
        EXPECT.part("promise 17: the first and the last car");
        ChargePosts x = Expect.built("F991p9c01900c01900c01900c01900c01900c18900");
        x.plug(0, 5);
        Expect.greet(x, 0);
        due("done(-1)", x.done(-1), UNKNOWN);
        due("done(0)", x.done(0), NONE);
        due("done(5)", x.done(5), 2);
        due("done(6)", x.done(6), UNKNOWN);
    }

    // ---- promise 18

    private static void promise18LeastAndGreatestN() {
        EXPECT.part("promise 18: 0 to 40 minutes");
        ChargePosts x = Expect.ready("F001p9c40900");
        due("least(-1)", x.least(-1), BAD);
        due("least(0)", x.least(0), NONE);
        due("least(1)", x.least(1), NONE);
        due("least(5)", x.least(5), 8);
        due("least(39)", x.least(39), 2);
        due("least(40)", x.least(40), 1);
        due("least(41)", x.least(41), BAD);
        x.limit(9);
        x.minute(1);
        due("least(0) before it is charged", x.least(0), NONE);
        ChargePosts y = Expect.ready("F991p9c09900");
        y.minute(1);
        due("least(0) when it is charged", y.least(0), 0);
    }

    private static void promise18The40thMinute() {
        EXPECT.part("promise 18: charged in minute 40, and not before minute 41");
        due("40 by 1 a minute", Expect.ready("F001p1c40900").least(40), 1);
        due("41 by 1 a minute", Expect.ready("F001p1c41900").least(40), NONE);
        due("40 by 1 a minute, in 39", Expect.ready("F001p1c40900").least(39), NONE);
        due("41 by 2 a minute", Expect.ready("F001p9c41900").least(40), 2);
        due("76 of a mute one", Expect.ready("F001p9c76902").least(40), 2);
        due("77 of a mute one", Expect.ready("F001p9c77902").least(40), NONE);
    }

    private static void promise18NoCarAtAPost() {
        EXPECT.part("promise 18: 0 if no car is at a post");
        for (int n = 0; n <= 40; n += 20) {
            due("least() without posts", new ChargePosts().least(n), 0);
            due("least() without cars", Expect.built("F991p9").least(n), 0);
            due("least() without posts, with a car", Expect.built("F991c99900").least(n), 0);
            due("least() of free posts", Expect.built("F991p9p9c99900").least(n), 0);
        }
        ChargePosts x = Expect.ready("F991p9c99900c99900");
        due("the car at no post does not count", x.least(11), 9);
        x.pull(0);
        due("nor does one that was pulled out", x.least(0), 0);
    }

    private static void promise18TheLimitZeroAndTheGreatest() {
        EXPECT.part("promise 18: the least limit that is needed, 0, 1 and the greatest one");
        ChargePosts x = Expect.ready("F991p9p9p9p9c09900c09900c09900c09900");
        due("4 times 9 in 1 minute", x.least(1), 36);
        due("4 times 9 in 2 minutes", x.least(2), 18);
        due("4 times 9 in 36 minutes", x.least(36), 1);
        due("4 times 9 in 35 minutes", x.least(35), 2);
        x.minute(1);
        due("charged", x.least(40), 0);
        due("4 times 9 and one less in 1 minute",
                Expect.ready("F001p9p9p9p9c09900c09900c09900c08900").least(1), 35);
        due("4 times 9 and one more in 1 minute",
                Expect.ready("F001p9p9p9p9c09900c09900c09900c10900").least(1), NONE);
    }

    private static void promise18SetNow() {
        EXPECT.part("promise 18: as if it were set now");
        ChargePosts x = Expect.ready("F991p9c20900");
        for (int v : new int[] {0, 1, 10, 99}) {
            x.limit(v);
            due("least(4) at the limit " + v, x.least(4), 5);
            due("limit then", x.about(2), v);
        }
        x.minute(1);
        due("from the present state", x.least(4), 3);
    }

    private static void promise18WithCommunication() {
        EXPECT.part("promise 18: with communication nobody dies of silence");
        ChargePosts x = Expect.ready("F991p1c41100");
        x.minute(1);
        due("from the patience on", x.least(40), 1);
        due("from the patience on, in 39", x.least(39), NONE);
        x.minute(1);
        due("dead", x.least(40), NONE);
    }

    // ---- promises 19 and 20

    private static int power(int n) {
        int power = 1;
        for (int i = 0; i < n; i++) {
            power *= 10;
        }
        return power;
    }

    private static void promise19EachLength() {
        EXPECT.part("promise 19: 1 to 6 draws, 0 to 10^n - 1");
        ChargePosts x = Expect.built("F001p1");
        due("no draws", x.signed(0, 0, 0), BAD);
        int nines = 0;
        for (int n = 1; n <= 6; n++) {
            nines = (31 * nines + 7 * 9 + 1) % 9973;
            due("-1 of " + n, x.signed(0, n, -1), BAD);
            due("0 of " + n, x.signed(0, n, 0), 0);
            due("1 of " + n, x.signed(0, n, 1), 8);
            due("10^" + n + " - 1", x.signed(0, n, power(n) - 1), nines);
            due("10^" + n, x.signed(0, n, power(n)), BAD);
        }
        due("7 draws", x.signed(0, 7, 0), BAD);
        due("7 draws, in range of 6", x.signed(0, 7, 999999), BAD);
    }

    private static void promise19ZerosInEachPlace() {
        EXPECT.part("promise 19: a draw of 0 does not change the sign");
        ChargePosts x = Expect.built("F001p1");
        int row = 1;
        for (int place = 0; place < 6; place++) {
            due("signed(0, 6, " + 5 * row + ")", x.signed(0, 6, 5 * row), 36);
            row *= 10;
        }
        for (int two : new int[] {12, 120, 102, 1200, 1002, 100002, 120000, 100200, 12000}) {
            due("signed(0, 6, " + two + ")", x.signed(0, 6, two), 31 * 8 + 15);
        }
    }

    private static void promise19SignsAtTheWrap() {
        EXPECT.part("promise 19: modulo 9973");
        ChargePosts x = Expect.built("F001p1p1p1");
        due("31 * 320 + 7 * 7 + 3 = 9972", x.signed(2, 3, 117), 9972);
        due("31 * 320 + 7 * 8 + 3 = 9973 + 6", x.signed(2, 3, 118), 6);
        due("31 * 9972 + 7 * 4 + 3 = 31 * 9973", x.signed(2, 4, 1174), 0);
        due("from 0 again", x.signed(2, 5, 11741), 10);
        due("with a draw of 0 after it", x.signed(2, 5, 11740), 0);
        due("with a draw of 0 before it", x.signed(2, 6, 10174), 0);
    }

    private static void promise19FirstAndLastPost() {
        EXPECT.part("promise 19: the first and the last post");
        ChargePosts x = Expect.built("F001p1p1p1p1");
        due("signed(-1, 1, 1)", x.signed(-1, 1, 1), UNKNOWN);
        for (int post = 0; post < 4; post++) {
            due("signed(" + post + ", 1, 1)", x.signed(post, 1, 1), 8 + post);
        }
        due("signed(4, 1, 1)", x.signed(4, 1, 1), UNKNOWN);
        due("signed(4, 0, 10)", x.signed(4, 0, 10), UNKNOWN);
        due("signed(0, 1, 1) without posts", new ChargePosts().signed(0, 1, 1), UNKNOWN);
    }

    private static void promise20EachLength() {
        EXPECT.part("promise 20: 1 to 3 draws, and the last row of each");
        ChargePosts x = Expect.built("F001p1");
        int nines = 0;
        due("no draws", x.forged(0, 0, 0), BAD);
        for (int n = 1; n <= 3; n++) {
            due("row 0 of " + n, x.forged(0, n, 0), 0);
            int before = nines;
            nines = (31 * nines + 64) % 9973;
            due("the last row of " + n, x.forged(0, n, nines), power(n) - 1);
            due("the last row of " + n + ", short of a draw", x.forged(0, n, (31 * nines + 64) % 9973), NONE);
            due("the last row of one less than " + n, x.forged(0, n, before), power(n - 1) - 1);
        }
        due("4 draws", x.forged(0, 4, 0), BAD);
    }

    private static void promise20LeastAndGreatestSign() {
        EXPECT.part("promise 20: a sign from 0 to 9972");
        ChargePosts x = Expect.built("F001p1p1p1");
        due("forged(2, 3, -1)", x.forged(2, 3, -1), BAD);
        due("forged(2, 3, 0)", x.forged(2, 3, 0), 0);
        due("forged(2, 3, 1)", x.forged(2, 3, 1), NONE);
        due("forged(2, 3, 6), behind the wrap", x.forged(2, 3, 6), 118);
        due("forged(2, 3, 9971)", x.forged(2, 3, 9971), NONE);
        due("forged(2, 3, 9972)", x.forged(2, 3, 9972), 117);
        due("forged(2, 2, 9972)", x.forged(2, 2, 9972), NONE);
        due("forged(2, 3, 9973)", x.forged(2, 3, 9973), BAD);
        due("forged(2, 0, 9973)", x.forged(2, 0, 9973), BAD);
        due("forged(2, 4, 1), NONE else", x.forged(2, 4, 1), BAD);
    }

    private static void promise20LeastOfManyRows() {
        EXPECT.part("promise 20: the least row of all that have the sign");
        ChargePosts x = Expect.built("F001p1");
        for (int draw = 1; draw <= 9; draw++) {
            for (int n = 1; n <= 3; n++) {
                due("one draw of " + draw + " in " + n, x.forged(0, n, 7 * draw + 1), draw);
            }
        }
        due("12, not 102 or 120", x.forged(0, 3, 31 * 8 + 15), 12);
    }

    private static void promise20EachRow() {
        EXPECT.part("promise 20: the least row for the sign of each row");
        for (int post = 0; post < 4; post++) {
            for (int first = 0; first < 10; first++) {
                ChargePosts x = Expect.built("F001p1p1p1p1");
                for (int row = 100 * first; row < 100 * first + 100; row++) {
                    int sign = sign(post, row);
                    due("forged(" + post + ", 3, " + sign + ")", x.forged(post, 3, sign), leastRow(post, sign));
                }
            }
        }
    }

    private static int sign(int post, int row) {
        int sign = 0;
        for (int draw : new int[] {row / 100, row / 10 % 10, row % 10}) {
            sign = draw == 0 ? sign : (31 * sign + 7 * draw + post + 1) % 9973;
        }
        return sign;
    }

    private static int leastRow(int post, int sign) {
        int row = 0;
        while (sign(post, row) != sign) {
            row++;
        }
        return row;
    }

    private static void promise20FirstAndLastPost() {
        EXPECT.part("promise 20: the first and the last post");
        ChargePosts x = Expect.built("F001p1p1p1p1");
        due("forged(-1, 1, 0)", x.forged(-1, 1, 0), UNKNOWN);
        due("forged(0, 1, 8)", x.forged(0, 1, 8), 1);
        due("forged(3, 1, 11)", x.forged(3, 1, 11), 1);
        due("forged(4, 1, 0)", x.forged(4, 1, 0), UNKNOWN);
        due("forged(4, 4, 9973)", x.forged(4, 4, 9973), UNKNOWN);
    }
}
