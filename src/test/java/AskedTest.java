/** Promises 16 to 21: ahead, done, least, signed, forged and judge. */
final class AskedTest {
    private static final Expect EXPECT = new Expect("asked");
    private static final int UNKNOWN = -1, BAD = -2, NONE = -9;
    private static final int STATE = 2, STAGE = 3, SILENCE = 4, AGE = 5, EXCESS = 6, METER = 7, SIGN = 8, INDEX = 9;

    public static void main(String[] args) {
        promise16Ahead();
        promise16Errors();
        promise17Done();
        promise17Bounds();
        promise18Least();
        promise18Who();
        promise18Errors();
        promise19Signed();
        promise19Errors();
        promise20Forged();
        promise20Errors();
        promise21Acts();
        promise21Claims();
        promise21Numbers();
        promise21Wrong();
        promise21Errors();
        EXPECT.finish();
    }

    private static void due(String call, long got, long want) {
        EXPECT.due(call, got, want);
    }

    /**
     * The plain car 0 is given 5 a minute; the liar draws 3 in minutes 1 and 2 and kills its post; the mute
     * one is on from minute 3 and draws 2 a minute. Without communication post 0 dies in minute 4.
     */
    private static ChargePosts busy() {
        return Expect.ready("F073p5p3p9c20920c12411c30952");
    }

    private static void ahead(ChargePosts x, int n, boolean talk, int post, int what, int want) {
        due("ahead(" + n + ", " + talk + ", " + post + ", " + what + ")", x.ahead(n, talk, post, what), want);
    }

    private static void promise16Ahead() {
        EXPECT.part("promise 16");
        ChargePosts x = busy();
        ahead(x, 0, true, 0, 1, 0);
        ahead(x, 0, false, 2, 1, 2);
        ahead(x, 0, true, 0, STATE, 2);
        ahead(x, 0, false, 0, INDEX, NONE);
        ahead(x, 1, true, 0, METER, 5);
        ahead(x, 1, true, 1, EXCESS, 1);
        ahead(x, 1, true, 2, AGE, 1);
        ahead(x, 2, true, 1, STATE, 4);
        ahead(x, 2, false, 1, SIGN, 31 * 23 + 23);
        ahead(x, 2, true, 1, STAGE, 4);
        ahead(x, 3, false, 0, SILENCE, 3);
        ahead(x, 3, true, 0, SILENCE, 0);
        ahead(x, 3, true, 2, INDEX, 0);
        ahead(x, 3, false, 0, INDEX, 1);
        ahead(x, 3, true, 1, INDEX, NONE);
        ahead(x, 4, false, 0, STATE, 4);
        ahead(x, 4, false, 0, METER, 15);
        ahead(x, 4, true, 0, STATE, 3);
        ahead(x, 4, true, 0, METER, 20);
        ahead(x, 5, true, 0, STATE, 2);
        ahead(x, 99, true, 2, METER, 30);
        ahead(x, 99, false, 2, METER, 30);
        due("minute", x.about(4), 0);
        due("meters", x.about(7), 0);
        due("acts", x.about(9), 11);
        x.pull(0);
        ahead(x, 1, true, 0, 1, NONE);
    }

    private static void promise16Errors() {
        ChargePosts x = busy();
        ahead(x, 1, true, -1, 1, UNKNOWN);
        ahead(x, 1, true, 3, 1, UNKNOWN);
        ahead(x, 100, true, 3, 1, UNKNOWN);
        ahead(x, 1, true, 3, 0, UNKNOWN);
        ahead(x, -1, true, 0, 1, BAD);
        ahead(x, 100, true, 0, 1, BAD);
        ahead(x, 1, true, 0, 0, BAD);
        ahead(x, 1, true, 0, 10, BAD);
        ahead(x, 1, true, 0, -1, BAD);
    }

    private static void promise17Done() {
        EXPECT.part("promise 17");
        ChargePosts x = busy();
        due("done(0)", x.done(0), 4);
        due("done(1), whose post dies", x.done(1), NONE);
        due("done(2)", x.done(2), 17);
        x.minute(3);
        due("done(0), 3 minutes later", x.done(0), 1);
        due("done(2), 3 minutes later", x.done(2), 14);
        x.pull(2);
        due("done(2) without a post", x.done(2), NONE);
        due("done(3)", x.done(3), UNKNOWN);
        due("done(-1)", x.done(-1), UNKNOWN);
        due("minute", x.about(4), 3);
        x.say(0, 4);
        x.minute(1);
        due("done(0) of a charged car", x.done(0), 0);
        x.pull(0);
        due("done(0) of a charged car without a post", x.done(0), 0);
    }

    private static void promise17Bounds() {
        due("99 minutes", Expect.ready("F991p1c99900").done(0), 99);
        ChargePosts x = Expect.built("F991p9p9c97102c98102");
        x.plug(0, 0);
        x.plug(1, 1);
        due("2 minutes to get ready and 97 more", x.done(0), 99);
        due("2 minutes to get ready and 98 more", x.done(1), NONE);
        due("a plugged car that does not get ready", Expect.built("F991p9c01900").done(0), NONE);
    }

    private static void promise18Least() {
        EXPECT.part("promise 18");
        ChargePosts x = Expect.ready("F009p9p9c10900c20900");
        due("least(0)", x.least(0), NONE);
        due("least(2), as 20 are too many", x.least(2), NONE);
        due("least(3)", x.least(3), 10);
        due("least(4)", x.least(4), 8);
        due("least(30)", x.least(30), 1);
        due("least(29)", x.least(29), 2);
        due("least(40)", x.least(40), 1);
        due("limit", x.about(2), 0);
        due("acts", x.about(9), 10);
        x.limit(50);
        due("least(4), whatever the limit is", x.least(4), 8);
        due("all that four posts can be given", Expect.ready("F001p9p9p9p9c09900c09900c09900c09900").least(1), 36);
        due("one less", Expect.ready("F001p9p9p9p9c09900c09900c09900c08900").least(1), 35);
        due("more than they can be given", Expect.ready("F001p9p9p9p9c09900c09900c09900c10900").least(1), NONE);
        due("a liar is charged by less", Expect.ready("F001p9c10901").least(1), 9);
        due("with communication", Expect.ready("F001p9c40900").least(40), 1);
    }

    private static void promise18Who() {
        ChargePosts x = Expect.built("F099p9p9c05900c06901c50900");
        due("least(0) without cars at posts", x.least(0), 0);
        due("least(40) without cars at posts", x.least(40), 0);
        x.plug(0, 0);
        due("least(40) of a plugged car", x.least(40), NONE);
        Expect.greet(x, 0);
        due("least(1)", x.least(1), 5);
        x.minute(1);
        due("least(0) of a charged car", x.least(0), 0);
        due("least(40) of a charged car", x.least(40), 0);
        x.plug(1, 2);
        Expect.greet(x, 1);
        due("least(6) of two cars", x.least(6), 9);
        x.say(1, 0);
        due("least(40) of a dead post's car", x.least(40), NONE);
        x.pull(1);
        due("least(0) without it", x.least(0), 0);
    }

    private static void promise18Errors() {
        ChargePosts x = Expect.ready("F099p9c05900");
        due("least(-1)", x.least(-1), BAD);
        due("least(41)", x.least(41), BAD);
        due("least(41) without posts", new ChargePosts().least(41), BAD);
        due("least(40) without posts", new ChargePosts().least(40), 0);
    }

    private static void signed(ChargePosts x, int post, int n, int row, int want) {
        due("signed(" + post + ", " + n + ", " + row + ")", x.signed(post, n, row), want);
    }

    private static void promise19Signed() {
        EXPECT.part("promise 19");
        ChargePosts x = Expect.built("F001p1p1p1p1");
        signed(x, 0, 1, 0, 0);
        signed(x, 3, 6, 0, 0);
        signed(x, 0, 1, 1, 8);
        signed(x, 1, 1, 7, 51);
        signed(x, 3, 1, 9, 67);
        signed(x, 0, 2, 12, 31 * 8 + 15);
        signed(x, 0, 2, 21, 31 * 15 + 8);
        signed(x, 0, 3, 120, 31 * 8 + 15);
        signed(x, 0, 3, 102, 31 * 8 + 15);
        signed(x, 0, 3, 12, 31 * 8 + 15);
        signed(x, 2, 6, 500000, 38);
        int sign = 0;
        for (int n = 1; n <= 6; n++) {
            sign = (31 * sign + 7 * 9 + 3) % 9973;
            signed(x, 2, n, (int) Math.pow(10, n) - 1, sign);
        }
        signed(x, 2, 4, 9876, (31 * ((31 * ((31 * 66 + 59) % 9973) + 52) % 9973) + 45) % 9973);
        x.plug(0, 0);
        signed(x, 0, 1, 1, 8);
    }

    private static void promise19Errors() {
        ChargePosts x = Expect.built("F001p1p1");
        signed(x, 2, 1, 1, UNKNOWN);
        signed(x, -1, 1, 1, UNKNOWN);
        signed(x, 2, 0, 1, UNKNOWN);
        signed(x, 0, 0, 0, BAD);
        signed(x, 0, 7, 0, BAD);
        signed(x, 0, -1, 0, BAD);
        signed(x, 0, 1, -1, BAD);
        signed(x, 0, 1, 10, BAD);
        signed(x, 0, 2, 100, BAD);
        signed(x, 0, 3, 1000, BAD);
        signed(x, 0, 6, 1000000, BAD);
        signed(x, 0, 6, Integer.MAX_VALUE, BAD);
        signed(x, 0, Integer.MAX_VALUE, 0, BAD);
    }

    private static void forged(ChargePosts x, int post, int n, int s, int want) {
        due("forged(" + post + ", " + n + ", " + s + ")", x.forged(post, n, s), want);
    }

    private static void promise20Forged() {
        EXPECT.part("promise 20");
        ChargePosts x = Expect.built("F001p1p1p1p1");
        for (int n = 1; n <= 3; n++) {
            forged(x, 0, n, 0, 0);
            forged(x, 0, n, 8, 1);
            forged(x, 0, n, 64, 9);
            forged(x, 1, n, 51, 7);
            forged(x, 0, n, 65, NONE);
            forged(x, 0, n, 1, NONE);
        }
        forged(x, 0, 1, 31 * 8 + 15, NONE);
        forged(x, 0, 2, 31 * 8 + 15, 12);
        forged(x, 0, 3, 31 * 8 + 15, 12);
        forged(x, 3, 2, 31 * 67 + 67, 99);
        int sign = (31 * (31 * 67 + 67) + 67) % 9973;
        forged(x, 3, 2, sign, NONE);
        forged(x, 3, 3, sign, 999);
        forged(x, 3, 3, 9972, NONE);
        forged(x, 3, 3, 9968, leastRow(x, 3, 9968));
        for (int s = 0; s < 9973; s += 331) {
            forged(x, 2, 3, s, leastRow(x, 2, s));
        }
    }

    private static int leastRow(ChargePosts x, int post, int s) {
        for (int row = 0; row < 1000; row++) {
            if (x.signed(post, 3, row) == s) {
                return row;
            }
        }
        return NONE;
    }

    private static void promise20Errors() {
        ChargePosts x = Expect.built("F001p1p1");
        forged(x, 2, 1, 0, UNKNOWN);
        forged(x, -1, 1, 0, UNKNOWN);
        forged(x, 2, 4, -1, UNKNOWN);
        forged(x, 0, 0, 0, BAD);
        forged(x, 0, 4, 0, BAD);
        forged(x, 0, -1, 0, BAD);
        forged(x, 0, 1, -1, BAD);
        forged(x, 0, 1, 9973, BAD);
        forged(x, 0, 1, 9972, NONE);
    }

    private static void judge(ChargePosts x, int n, int row, int want) {
        due("judge(" + n + ", " + row + ")", x.judge(n, row), want);
    }

    private static void promise21Acts() {
        EXPECT.part("promise 21");
        ChargePosts x = Expect.built("F091p9p9c05900c60902");
        judge(x, 1, 101, NONE);
        judge(x, 1, 199, NONE);
        judge(x, 1, 100, 0);
        judge(x, 1, 200, NONE);
        judge(x, 1, 211, NONE);
        judge(x, 1, 202, 0);
        judge(x, 1, 220, 0);
        judge(x, 2, 200201, 1);
        judge(x, 2, 200210, 1);
        judge(x, 3, 200300300, 2);
        judge(x, 3, 201601610, NONE);
        judge(x, 3, 200300200, NONE);
        judge(x, 2, 200310, 1);
        judge(x, 1, 301, 0);
        judge(x, 3, 200400401, NONE);
        judge(x, 2, 200406, 1);
        judge(x, 2, 201400, 1);
        judge(x, 1, 400, 0);
        judge(x, 1, 420, 0);
        judge(x, 3, 200401500, NONE);
        judge(x, 3, 200401510, 2);
        judge(x, 2, 200500, 1);
        judge(x, 1, 502, 0);
        judge(x, 3, 200102500, NONE);
        judge(x, 3, 200102400, 2);
        judge(x, 1, 800, NONE);
        judge(x, 1, 899, NONE);
        due("cars at posts", x.plug(0, 0), 1);
        due("minute", x.about(4), 0);
        due("limit", x.about(2), 9);
        due("acts", x.about(9), 1);
    }

    private static void promise21Claims() {
        ChargePosts x = Expect.ready("F092p9p9c05900c13900");
        judge(x, 1, 602, NONE);
        judge(x, 1, 601, 0);
        judge(x, 1, 603, 0);
        judge(x, 1, 622, 0);
        judge(x, 1, 620, 0);
        judge(x, 1, 705, NONE);
        judge(x, 1, 709, NONE);
        judge(x, 1, 704, 0);
        judge(x, 1, 719, 0);
        judge(x, 1, 729, 0);
        judge(x, 3, 101715716, NONE);
        judge(x, 3, 101714713, 1);
        judge(x, 3, 101603700, 2);
        judge(x, 3, 101704703, 2);
        judge(x, 3, 102700710, NONE);
        judge(x, 3, 103604614, NONE);
        judge(x, 3, 102602701, 1);
        judge(x, 3, 899101700, NONE);
        judge(x, 3, 803101700, 2);
        judge(x, 3, 813101704, NONE);
        judge(x, 3, 405601101, NONE);
    }

    private static void promise21Numbers() {
        // A mute car draws 2 a minute from minute 3 on.
        ChargePosts x = Expect.built("F991p9c20902");
        judge(x, 3, 200112700, NONE);
        judge(x, 3, 200111700, 2);
        judge(x, 3, 200111702, NONE);
        // 10 for both cars: with one less the first car is not charged in a minute.
        ChargePosts y = Expect.ready("F009p9p9c09900c01900");
        judge(y, 2, 800805, NONE);
        judge(y, 3, 810101700, NONE);
        judge(y, 3, 809101700, 2);
        judge(y, 3, 809101701, NONE);
        judge(y, 3, 808101701, 2);
    }

    private static void promise21Wrong() {
        ChargePosts x = Expect.ready("F092p9c05900");
        judge(x, 1, 0, 0);
        judge(x, 1, 99, 0);
        judge(x, 1, 900, 0);
        judge(x, 1, 999, 0);
        judge(x, 2, 602900, 1);
        judge(x, 2, 602, 0);
        judge(x, 3, 602602000, 2);
        judge(x, 3, 602000000, 1);
        judge(x, 3, 602602602, NONE);
        judge(x, 3, 999999999, 0);
    }

    private static void promise21Errors() {
        ChargePosts x = Expect.ready("F092p9c05900");
        judge(x, 0, 0, BAD);
        judge(x, 4, 602, BAD);
        judge(x, -1, 602, BAD);
        judge(x, 1, 1000, BAD);
        judge(x, 1, -1, BAD);
        judge(x, 2, 1000000, BAD);
        judge(x, 2, 999999, 0);
        judge(x, 3, 1000000000, BAD);
        judge(x, 3, Integer.MAX_VALUE, BAD);
        judge(x, 3, Integer.MIN_VALUE, BAD);
    }
}
