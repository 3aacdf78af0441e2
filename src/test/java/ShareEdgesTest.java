/** The boundary cases of promises 25 to 28. */
final class ShareEdgesTest {
    private static final Expect EXPECT = new Expect("edges of shares, chances and trials");
    private static final int UNKNOWN = -1, BAD = -2;
    private static final long FACTOR = 6364136223846793005L, STEP = 1442695040888963407L;

    public static void main(String[] args) {
        promise25FirstAndLastPost();
        promise25NothingIsZeroOfOne();
        promise25NegativeNumerator();
        promise25Liars();
        promise25LowestTerms();
        promise25The20thMinute();
        promise25AllTogether();
        promise25WithCommunication();
        promise26LeastAndGreatest();
        promise26NoPosts();
        promise26ZeroAndOne();
        promise26LowestTerms();
        promise26SilenceAtThePatience();
        promise26WhoCanDie();
        promise26DeadAlready();
        promise27LeastAndGreatest();
        promise28OneAndTwentySteps();
        promise28LeastAndGreatestV();
        promise28OverflowAndSigns();
        promise28MessageOrMinute();
        promise28NoSuchPost();
        promise28ManyTrials();
        EXPECT.finish();
    }

    private static void due(String call, long got, long want) {
        EXPECT.due(call, got, want);
    }

    private static void share(ChargePosts x, int post, int over, int under) {
        due("share(" + post + ", true)", x.share(post, true), over);
        due("share(" + post + ", false)", x.share(post, false), under);
    }

    // ---- promise 25

    private static void promise25FirstAndLastPost() {
        EXPECT.part("promise 25: the first and the last post");
        ChargePosts x = Expect.ready("F991p1p1p1p1c01100c02100c03100c04100");
        share(x, -1, UNKNOWN, UNKNOWN);
        for (int post = 0; post < 4; post++) {
            share(x, post, post + 1, 1);
        }
        share(x, 4, UNKNOWN, UNKNOWN);
        share(new ChargePosts(), 0, UNKNOWN, UNKNOWN);
        share(Expect.ready("F991p1c01100"), 0, 1, 1);
        share(Expect.ready("F991p1c01100"), 1, UNKNOWN, UNKNOWN);
    }

    private static void promise25NothingIsZeroOfOne() {
        EXPECT.part("promise 25: 0 is 0 / 1");
        share(Expect.built("F991p9p9p9p9"), 3, 0, 1);
        share(Expect.ready("F001p9p9c99900c99900"), 0, 0, 1);
        ChargePosts x = Expect.ready("F999p9p9c09900c09900");
        x.minute(1);
        share(x, 0, 0, 1);
        x.plug(1, 0);
        x.say(1, 0);
        share(x, 1, 0, 1);
    }

    /** The answers are those of Model, which goes through all 24 orders. */
    private static void promise25NegativeNumerator() {
        EXPECT.part("promise 25: the numerator may be negative, the denominator is positive");
        share(Expect.ready("F069p2p8p5p7c01320c14820c13521c02911"), 0, -1, 12);
    }

    private static void promise25Liars() {
        EXPECT.part("promise 25: a liar draws more alone than behind another one");
        // 5 and 5 alone; 2 and 2 behind post 1, which takes 4 a minute in any case.
        ChargePosts x = Expect.ready("F051p4p4c99401c99410");
        share(x, 0, 7, 1);
        share(x, 1, 77, 1);
        // 2 and 2 alone, and a minute later behind post 1.
        ChargePosts y = Expect.ready("F011p4p4c99401c01410");
        share(y, 0, 4, 1);
        share(y, 1, 1, 1);
        // 4 alone for its need of 3; 3 behind post 1, which takes 1.
        ChargePosts z = Expect.ready("F031p3p1c03301c01110");
        share(z, 0, 7, 2);
        share(z, 1, 1, 2);
        // 3 alone for its need of 2; 2 behind post 1, which takes 1.
        ChargePosts w = Expect.ready("F021p2p1c02201c01110");
        share(w, 0, 5, 2);
        share(w, 1, 1, 2);
    }

    private static void promise25LowestTerms() {
        EXPECT.part("promise 25: lowest terms");
        share(Expect.ready("F011p1p1c20100c20100"), 0, 10, 1);
        share(Expect.ready("F011p1p1c05100c90100"), 0, 5, 2);
        share(Expect.ready("F011p1p1p1c20100c20100c20100"), 0, 20, 3);
        share(Expect.ready("F011p1p1p1p1c20100c20100c20100c20100"), 3, 5, 1);
        share(Expect.ready("F011p1p1p1p1c19100c19100c19100c19100"), 3, 5, 1);
    }

    private static void promise25The20thMinute() {
        EXPECT.part("promise 25: after 20 minutes");
        share(Expect.ready("F991p1c19100"), 0, 19, 1);
        share(Expect.ready("F991p1c20100"), 0, 20, 1);
        share(Expect.ready("F991p1c21100"), 0, 20, 1);
        ChargePosts x = Expect.built("F991p1p9c99902c99902");
        x.plug(0, 0);
        x.plug(1, 1);
        share(x, 0, 18, 1);
        share(x, 1, 36, 1);
    }

    private static void promise25AllTogether() {
        EXPECT.part("promise 25: the shares add up to what all draw together");
        String[] texts = {"F069p2p8p5p7c01320c14820c13521c02911", "F049p7p6p8p3c02421c08700c05321c16800",
            "F029p4p2p5c17410c19721c01400", "F073p5p3p9p4c20920c32411c30952c40800"};
        for (String text : texts) {
            ChargePosts x = Expect.ready(text);
            x.minute(1);
            int sum = 0;
            int together = -x.about(7);
            for (int post = 0; post < x.about(0); post++) {
                sum += x.share(post, true) * (24 / x.share(post, false));
                together += x.ahead(20, true, post, 7);
            }
            due("24 times the sum of the shares of " + text, sum, 24 * together);
        }
    }

    private static void promise25WithCommunication() {
        EXPECT.part("promise 25: with communication, also from the patience on");
        ChargePosts x = Expect.ready("F991p1c99100");
        x.minute(1);
        share(x, 0, 20, 1);
        x.minute(1);
        share(x, 0, 0, 1);
    }

    // ---- promise 26

    private static void chance(ChargePosts x, int n, int tenths, int over, int under) {
        due("chance(" + n + ", " + tenths + ", true)", x.chance(n, tenths, true), over);
        due("chance(" + n + ", " + tenths + ", false)", x.chance(n, tenths, false), under);
    }

    private static void promise26LeastAndGreatest() {
        EXPECT.part("promise 26: 1 to 9 minutes, and 0 to 10 tenths");
        ChargePosts x = Expect.ready("F998p1c99100");
        chance(x, 0, 5, BAD, BAD);
        chance(x, 1, 5, 1, 1);
        chance(x, 8, 5, 1, 1);
        chance(x, 9, 5, 1, 2);
        chance(x, 10, 5, BAD, BAD);
        chance(x, 9, -1, BAD, BAD);
        chance(x, 9, 0, 1, 1);
        chance(x, 9, 1, 9, 10);
        chance(x, 9, 9, 1, 10);
        chance(x, 9, 10, 0, 1);
        chance(x, 9, 11, BAD, BAD);
        chance(x, 0, 11, BAD, BAD);
    }

    private static void promise26NoPosts() {
        EXPECT.part("promise 26: 1 without posts");
        for (int tenths = 0; tenths <= 10; tenths++) {
            chance(new ChargePosts(), 1, tenths, 1, 1);
            chance(Expect.built("F991c99100"), 9, tenths, 1, 1);
            chance(Expect.built("F991p1p1p1p1"), 9, tenths, 1, 1);
        }
        chance(new ChargePosts(), 0, 0, BAD, BAD);
        chance(new ChargePosts(), 1, 11, BAD, BAD);
    }

    private static ChargePosts four() {
        return Expect.ready("F991p1p1p1p1c99100c99100c99100c99100");
    }

    private static void promise26ZeroAndOne() {
        EXPECT.part("promise 26: 0 / 1 and 1 / 1, with four posts");
        chance(four(), 1, 10, 1, 1);
        chance(four(), 2, 10, 0, 1);
        chance(four(), 2, 0, 1, 1);
        chance(four(), 9, 0, 1, 1);
    }

    private static void promise26LowestTerms() {
        EXPECT.part("promise 26: lowest terms");
        int[] over = {6561, 256, 2401, 81, 1, 16, 81, 1, 1};
        int[] under = {10000, 625, 10000, 625, 16, 625, 10000, 625, 10000};
        for (int tenths = 1; tenths <= 9; tenths++) {
            chance(four(), 2, tenths, over[tenths - 1], under[tenths - 1]);
        }
    }

    private static void promise26SilenceAtThePatience() {
        EXPECT.part("promise 26: the silence at the patience and above it, from the present state on");
        ChargePosts x = Expect.ready("F999p1c99100");
        chance(x, 9, 10, 1, 1);
        x.minute(1);
        chance(x, 8, 10, 1, 1);
        chance(x, 9, 10, 0, 1);
        chance(x, 9, 5, 1, 2);
        x.minute(8);
        chance(x, 1, 10, 0, 1);
        chance(x, 1, 3, 7, 10);
        chance(x, 1, 0, 1, 1);
        x.say(0, 4);
        chance(x, 9, 10, 1, 1);
    }

    private static void promise26WhoCanDie() {
        EXPECT.part("promise 26: a free post and a mute car's do not die, a plugged one does");
        ChargePosts x = Expect.built("F991p1p1p1c99102c99100");
        x.plug(0, 0);
        chance(x, 9, 10, 1, 1);
        x.plug(2, 1);
        chance(x, 1, 10, 1, 1);
        chance(x, 9, 10, 0, 1);
        chance(x, 2, 1, 9, 10);
        // A liar's post dies of its second draw, in minute 2, or of silence in the same minute.
        chance(Expect.ready("F991p1c99101"), 1, 5, 1, 1);
        chance(Expect.ready("F991p1c99101"), 2, 0, 0, 1);
        chance(Expect.ready("F991p1c99101"), 2, 5, 0, 1);
        // The liar needs so little that it draws once.
        chance(Expect.ready("F999p1c02101"), 9, 10, 1, 1);
    }

    private static void promise26DeadAlready() {
        EXPECT.part("promise 26: 0 if a post is dead now");
        ChargePosts x = Expect.ready("F991p1p1c99100c99100");
        x.say(1, 0);
        for (int tenths = 0; tenths <= 10; tenths += 5) {
            chance(x, 1, tenths, 0, 1);
        }
        x.reset(1);
        chance(x, 1, 5, 1, 1);
    }

    // ---- promises 27 and 28

    private static void promise27LeastAndGreatest() {
        EXPECT.part("promise 27: any long");
        ChargePosts x = new ChargePosts();
        long before = 0;
        long[] numbers = {Long.MAX_VALUE, Long.MIN_VALUE, -1, 0, 1, 1L << 32, Integer.MIN_VALUE, 0xffffffffL};
        for (long v : numbers) {
            due("seed(" + v + ")", x.seed(v), before);
            before = v;
        }
        due("seed() after a site()", Expect.built("F001p1").seed(3), 0);
    }

    /** The start number that becomes s in the first step. */
    private static long before(long s) {
        long inverse = 1;
        for (int i = 0; i < 6; i++) {
            inverse *= 2 - FACTOR * inverse;
        }
        return (s - STEP) * inverse;
    }

    private static int valueOf(long s) {
        return (int) (s >>> 33);
    }

    private static long next(long s) {
        return s * FACTOR + STEP;
    }

    private static void promise28OneAndTwentySteps() {
        EXPECT.part("promise 28: 1 to 20 steps");
        ChargePosts x = Expect.ready("F991p1c99100");
        x.seed(4);
        due("drawn(0)", x.drawn(0), BAD);
        due("drawn(21)", x.drawn(21), BAD);
        due("start number after errors", x.seed(4), 4);
        due("drawn(1), a message or a first minute", x.drawn(1), 0);
        due("start number after 1", x.seed(4), next(4));
        x.drawn(20);
        long s = 4;
        for (int i = 0; i < 20; i++) {
            s = next(s);
        }
        due("start number after 20", x.seed(0), s);
    }

    private static void promise28LeastAndGreatestV() {
        EXPECT.part("promise 28: v is 0, message 0 to post 0, and v is 2^31 - 1, message 3 to post 3");
        ChargePosts x = Expect.built("F991p9p9p9p9c99900c99900c99900c99900");
        x.plug(3, 3);
        for (int message = 0; message < 3; message++) {
            x.say(3, message);
        }
        // Post 3 gets ready by message 3, and draws if the second step is a minute.
        long s = -1;
        while (valueOf(next(s)) / 4 % 7 != 6) {
            s--;
        }
        due("v before the minute", valueOf(s), Integer.MAX_VALUE);
        x.seed(before(s));
        due("drawn(1)", x.drawn(1), 0);
        due("start number", x.seed(before(s)), s);
        due("drawn(2)", x.drawn(2), 9);
        ChargePosts y = Expect.ready("F991p9c99900");
        long t = 0;
        while (valueOf(next(t)) / 4 % 7 != 6) {
            t++;
        }
        due("v before the minute", valueOf(t), 0);
        y.seed(before(t));
        due("drawn(2): message 0 kills the ready post 0", y.drawn(2), 0);
        ChargePosts z = Expect.ready("F991p9p9c99900c99900");
        z.seed(before(t));
        due("drawn(2): and no other", z.drawn(2), 9);
    }

    private static void promise28OverflowAndSigns() {
        EXPECT.part("promise 28: long arithmetic with overflow, and a start number below 0");
        for (long s : new long[] {0, -1, 1, Long.MIN_VALUE, Long.MAX_VALUE, 1L << 33, (1L << 33) - 1}) {
            ChargePosts x = Expect.ready("F991p9c99900");
            x.seed(before(s));
            x.drawn(1);
            due("start number that becomes " + s, x.seed(s), s);
            x.drawn(1);
            due("start number after " + s, x.seed(0), next(s));
        }
    }

    /** A start number with which v is first, and then a minute passes. */
    private static long thenAMinute(int first) {
        long s = (long) first << 33;
        while (valueOf(next(s)) / 4 % 7 != 6) {
            s++;
        }
        return before(s);
    }

    private static void promise28MessageOrMinute() {
        EXPECT.part("promise 28: v / 4 % 7 from 0 to 5 is a message, 6 a minute, v % 4 the post");
        // All four posts are on at the patience, with the meters 1, 2, 3 and 4.
        for (int post = 0; post < 4; post++) {
            for (int message = 0; message < 7; message++) {
                for (int round = 0; round < 3; round++) {
                    ChargePosts x = Expect.ready("F991p1p2p3p4c99900c99900c99900c99900");
                    x.minute(1);
                    x.seed(thenAMinute(28 * round + 4 * message + post));
                    // Only a post to which 4 was said does not die of silence in the minute.
                    int want = message == 4 ? 10 + 10 + post + 1 : 20;
                    due("drawn(2), message " + message + " to post " + post, x.drawn(2), want);
                }
            }
        }
        for (int post = 0; post < 4; post++) {
            ChargePosts x = Expect.ready("F999p1p2p3p4c99900c99900c99900c99900");
            for (int message = 0; message < 7; message++) {
                x.seed(thenAMinute(4 * message + post));
                int others = 10 - (post + 1);
                int want = message == 4 ? 10 : message == 6 ? 10 + 20 : others;
                due("drawn(2), message " + message + " to the ready post " + post, x.drawn(2), want);
            }
        }
    }

    private static void promise28NoSuchPost() {
        EXPECT.part("promise 28: a message that is not possible, to no post, a free, a dead, a mute one's");
        for (int message = 0; message < 6; message++) {
            ChargePosts x = Expect.built("F999p1p1p9c99900c99900c99902");
            x.plug(1, 1);
            x.say(1, 3);
            x.plug(2, 2);
            x.minute(2);
            for (int post = 0; post < 4; post++) {
                x.seed(thenAMinute(4 * message + post));
                due("drawn(2), message " + message + " to post " + post, x.drawn(2), 2);
            }
            due("dead", x.about(6), 2);
            due("meters", x.about(7), 0);
        }
    }

    /** Does what drawn(20) says by acts on another object in the same state. */
    private static int steps(ChargePosts twin, long start) {
        long s = start;
        int sum = 0;
        for (int i = 0; i < 20; i++) {
            s = next(s);
            if (valueOf(s) / 4 % 7 == 6) {
                twin.minute(1);
            } else {
                twin.say(valueOf(s) % 4, valueOf(s) / 4 % 7);
            }
            sum += twin.about(7);
        }
        return sum;
    }

    private static void promise28ManyTrials() {
        EXPECT.part("promise 28: 20 steps, each going on from the one before");
        String text = "F132p5p3p9p4c20920c32410c30952c40800";
        for (int trial = 0; trial < 200; trial++) {
            ChargePosts x = Expect.ready(text);
            ChargePosts twin = Expect.ready(text);
            long start = trial * 0x9e3779b97f4a7c15L;
            x.seed(start);
            due("drawn(20) from " + start, x.drawn(20), steps(twin, start));
            due("meters", x.about(7), 0);
        }
    }
}
