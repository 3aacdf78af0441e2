/** The boundary cases of "A minute" and of promise 9. */
final class MinuteEdgesTest {
    private static final Expect EXPECT = new Expect("edges of a minute");
    private static final int BAD = -2, NONE = -9;
    private static final int STATE = 2, SILENCE = 4, AGE = 5, EXCESS = 6, METER = 7, SIGN = 8, INDEX = 9;

    public static void main(String[] args) {
        promise9LeastAndGreatestN();
        promise9MinutesAddUp();
        promise9ManyAtOnceOrOneByOne();
        promise9SilenceAndPatience();
        promise9SilenceOfThePlugged();
        promise9NoSilence();
        promise9DeadGetsNothingInThatMinute();
        promise9AgeOfTheMute();
        promise9OneChangeInAMinute();
        promise9RestOfOneAndOfNone();
        promise9LimitOfNone();
        promise9LimitForTheFirstOnly();
        promise9LimitForTheOnesAlone();
        promise9LimitForOneMore();
        promise9LimitForTheFirstsMost();
        promise9LimitForAllAndOneLess();
        promise9GreatestLimit();
        promise9EachBoundOfTheTotal();
        promise9EachBoundOfTheMute();
        promise9OrderAtItsEnds();
        promise9ExcessOfOneAndTwo();
        promise9ExcessWithoutADraw();
        promise9LiarAtTheEndOfItsNeed();
        promise9SignBeforeItsWrap();
        promise9SignBehindItsWrap();
        EXPECT.finish();
    }

    private static void due(String call, long got, long want) {
        EXPECT.due(call, got, want);
    }

    private static void meters(ChargePosts x, int... want) {
        for (int post = 0; post < want.length; post++) {
            due("meter of post " + post, x.post(post, METER), want[post]);
        }
    }

    /** The meters after one minute with a limit; the state is as before then. */
    private static void metersBy(ChargePosts x, int limit, int... want) {
        x.limit(limit);
        x.minute(1);
        for (int post = 0; post < want.length; post++) {
            due("meter of post " + post + " by the limit " + limit, x.post(post, METER), want[post]);
        }
        x.undo();
        x.undo();
    }

    private static void promise9LeastAndGreatestN() {
        EXPECT.part("promise 9: 1 to 99 minutes");
        ChargePosts x = Expect.ready("F099p1c99100");
        due("minute(0)", x.minute(0), BAD);
        due("minute(1)", x.minute(1), 1);
        due("minute", x.about(4), 1);
        due("minute(100)", x.minute(100), BAD);
        due("minute", x.about(4), 1);
        due("minute(99)", x.minute(99), 9);
        due("minute", x.about(4), 100);
        due("minute(-1)", x.minute(-1), BAD);
    }

    private static void promise9MinutesAddUp() {
        EXPECT.part("promise 9: the number of the minute goes on beyond 99");
        ChargePosts x = Expect.built("F019p1c99102");
        x.plug(0, 0);
        due("minute(99)", x.minute(99), 97);
        due("minute(1)", x.minute(1), 98);
        due("minute(1)", x.minute(1), 99);
        due("minute(99)", x.minute(99), 99);
        due("minute", x.about(4), 200);
        due("state", x.post(0, STATE), 2);
    }

    private static void promise9ManyAtOnceOrOneByOne() {
        EXPECT.part("promise 9: n minutes are one act and do what n times one does");
        String text = "F073p5p3p9p4c20920c32411c30952c40800";
        ChargePosts once = Expect.ready(text);
        ChargePosts often = Expect.ready(text);
        int acts = once.about(9);
        // 8, 8 and 7 in the first three minutes, and then 2 a minute, as the mute one alone does not die.
        due("minute(7)", once.minute(7), 31);
        for (int i = 0; i < 7; i++) {
            often.minute(1);
        }
        for (int post = 0; post < 4; post++) {
            for (int what = 1; what < 10; what++) {
                due("post(" + post + ", " + what + ")", once.post(post, what), often.post(post, what));
            }
        }
        due("acts", once.about(9), Math.min(acts + 1, 14));
        due("undo()", once.undo(), Math.min(acts, 13));
        due("minute then", once.about(4), 0);
    }

    private static void promise9SilenceAndPatience() {
        EXPECT.part("promise 9: the silence at the patience and above it");
        for (int patience = 1; patience <= 9; patience++) {
            ChargePosts x = Expect.ready("F01" + patience + "p1c99100");
            due("minute(" + patience + ")", x.minute(patience), patience);
            due("silence at the patience", x.post(0, SILENCE), patience);
            due("state at the patience", x.post(0, STATE), 3);
            due("one minute more", x.minute(1), patience);
            due("silence above the patience", x.post(0, SILENCE), patience + 1);
            due("state above the patience", x.post(0, STATE), 4);
            x.minute(99);
            due("silence of the dead", x.post(0, SILENCE), patience + 1);
        }
    }

    private static void promise9SilenceOfThePlugged() {
        EXPECT.part("promise 9: a plugged and a ready post die, too, and get no age in that minute");
        ChargePosts x = Expect.built("F001p1p1c01100c01100");
        x.plug(0, 0);
        x.plug(1, 1);
        Expect.greet(x, 1);
        x.limit(9);
        x.minute(1);
        due("plugged at the patience", x.post(0, STATE), 1);
        due("on at the patience, charged", x.post(1, STATE), 3);
        x.say(1, 4);
        x.minute(1);
        due("plugged above the patience", x.post(0, STATE), 4);
        due("its age", x.post(0, AGE), 1);
        due("ready at the patience", x.post(1, STATE), 2);
        x.minute(1);
        due("ready above the patience", x.post(1, STATE), 4);
    }

    private static void promise9NoSilence() {
        EXPECT.part("promise 9: no silence for the free, the mute and the dead");
        ChargePosts x = Expect.built("F991p1p1p1c99102c01100");
        x.plug(0, 0);
        x.plug(2, 1);
        x.say(2, 1);
        x.minute(99);
        for (int post = 0; post < 3; post++) {
            due("silence of post " + post, x.post(post, SILENCE), 0);
        }
        due("state of the mute", x.post(0, STATE), 3);
        due("state of the free", x.post(1, STATE), 0);
        due("state of the dead", x.post(2, STATE), 4);
        due("age of the free", x.post(1, AGE), 0);
        due("age of the dead", x.post(2, AGE), 0);
    }

    private static void promise9DeadGetsNothingInThatMinute() {
        EXPECT.part("promise 9: what the dead one is not given is left for the others in that minute");
        ChargePosts x = Expect.ready("F091p9p9c99990c99900");
        x.minute(1);
        meters(x, 8, 1);
        x.say(1, 4);
        x.minute(1);
        meters(x, 8, 10);
        due("dead", x.about(6), 1);
    }

    private static void promise9AgeOfTheMute() {
        EXPECT.part("promise 9: the age of 1 and of 2");
        ChargePosts x = Expect.built("F991p9p9c99902c99900");
        x.plug(0, 0);
        x.plug(1, 1);
        int[] states = {1, 2, 3};
        int[] ages = {1, 2, 2};
        for (int i = 0; i < 3; i++) {
            x.minute(1);
            x.say(1, 4);
            due("mute, state in minute " + (i + 1), x.post(0, STATE), states[i]);
            due("mute, age in minute " + (i + 1), x.post(0, AGE), ages[i]);
            due("plain, state in minute " + (i + 1), x.post(1, STATE), 1);
            due("plain, age in minute " + (i + 1), x.post(1, AGE), i + 1);
        }
        x.pull(0);
        x.plug(0, 0);
        due("age when plugged again", x.post(0, AGE), 0);
        x.minute(1);
        due("state then, in minute 1", x.post(0, STATE), 1);
        x.minute(1);
        due("state then, in minute 2", x.post(0, STATE), 2);
    }

    private static void promise9OneChangeInAMinute() {
        EXPECT.part("promise 9: each post changes its state at most once");
        ChargePosts x = Expect.built("F999p9c01902");
        x.plug(0, 0);
        int[] states = {1, 2, 3, 2, 2};
        int[] meters = {0, 0, 1, 1, 1};
        for (int i = 0; i < states.length; i++) {
            x.minute(1);
            due("state in minute " + (i + 1), x.post(0, STATE), states[i]);
            due("meter in minute " + (i + 1), x.post(0, METER), meters[i]);
        }
    }

    private static void promise9RestOfOneAndOfNone() {
        EXPECT.part("promise 9: a rest of 1 and of 0");
        ChargePosts x = Expect.ready("F999p1c02100");
        x.minute(1);
        due("rest", x.car(0, 4), 1);
        x.minute(1);
        due("on with the rest 1 before it", x.post(0, METER), 2);
        due("state in the minute in which it is charged", x.post(0, STATE), 3);
        x.minute(1);
        due("state with the rest 0 before the minute", x.post(0, STATE), 2);
        x.say(0, 5);
        Expect.greet(x, 0);
        x.minute(1);
        due("a ready one with the rest 0 does not become on", x.post(0, STATE), 2);
        due("meter", x.post(0, METER), 2);
        due("sign", x.post(0, SIGN), 31 * 8 + 8);
    }

    private static void promise9LimitOfNone() {
        EXPECT.part("promise 9: nothing left of the limit, as it is 0");
        ChargePosts x = Expect.ready("F009p9p9c99901c99900");
        due("minute(3)", x.minute(3), 0);
        due("on", x.about(5), 3);
        meters(x, 0, 0);
        due("excess", x.post(0, EXCESS), 0);
        due("sign", x.post(0, SIGN), 0);
        due("rests", x.about(8), 198);
    }

    private static ChargePosts three() {
        return Expect.ready("F009p9p9p9c50500c50510c50520");
    }

    private static void promise9LimitForTheFirstOnly() {
        EXPECT.part("promise 9: nothing left of the limit for the last ones");
        metersBy(three(), 1, 0, 0, 1);
        metersBy(three(), 2, 0, 1, 1);
    }

    private static void promise9LimitForTheOnesAlone() {
        EXPECT.part("promise 9: nothing left of the limit when each is given 1");
        metersBy(three(), 3, 1, 1, 1);
    }

    private static void promise9LimitForOneMore() {
        EXPECT.part("promise 9: 1 left of the limit when each is given 1");
        metersBy(three(), 4, 1, 1, 2);
    }

    private static void promise9LimitForTheFirstsMost() {
        EXPECT.part("promise 9: as much more as is left, up to the first one's most");
        metersBy(three(), 6, 1, 1, 4);
        metersBy(three(), 7, 1, 1, 5);
        metersBy(three(), 8, 1, 2, 5);
        metersBy(three(), 11, 1, 5, 5);
        metersBy(three(), 12, 2, 5, 5);
    }

    private static void promise9LimitForAllAndOneLess() {
        EXPECT.part("promise 9: the limit is all that can be given, one less, one more");
        metersBy(three(), 14, 4, 5, 5);
        metersBy(three(), 15, 5, 5, 5);
        metersBy(three(), 16, 5, 5, 5);
    }

    private static void promise9GreatestLimit() {
        EXPECT.part("promise 9: the limit of 99");
        metersBy(three(), 99, 5, 5, 5);
        metersBy(Expect.ready("F009p9p9p9p9c99900c99900c99900c99900"), 99, 9, 9, 9, 9);
        metersBy(Expect.ready("F009p9p9p9p9c99900c99900c99900c99900"), 36, 9, 9, 9, 9);
        metersBy(Expect.ready("F009p9p9p9p9c99900c99900c99900c99900"), 35, 9, 9, 9, 8);
    }

    private static void promise9EachBoundOfTheTotal() {
        EXPECT.part("promise 9: the least of the maximum, the amps and the rest");
        metersBy(Expect.ready("F999p9p9p9p9c99100c99800c01900c08900"), 99, 1, 8, 1, 8);
        metersBy(Expect.ready("F999p1p8p4p4c99900c99900c04900c03900"), 99, 1, 8, 4, 3);
        metersBy(Expect.ready("F999p5p5p6p5c99500c05600c05500c05500"), 99, 5, 5, 5, 5);
    }

    private static void promise9EachBoundOfTheMute() {
        EXPECT.part("promise 9: and 2, if the car is mute");
        ChargePosts x = Expect.ready("F999p9p1p9p9c99902c99902c99102c03902");
        x.minute(3);
        meters(x, 2, 1, 1, 2);
        x.minute(1);
        meters(x, 4, 2, 2, 3);
        ChargePosts y = Expect.ready("F999p2p9p9p3c99902c99202c02902c99302");
        y.minute(3);
        meters(y, 2, 2, 2, 2);
        ChargePosts z = Expect.ready("F019p9c99902");
        z.minute(3);
        meters(z, 1);
    }

    private static void index(ChargePosts x, int... want) {
        x.minute(1);
        for (int post = 0; post < want.length; post++) {
            due("index of post " + post, x.post(post, INDEX), want[post]);
        }
    }

    private static void promise9OrderAtItsEnds() {
        EXPECT.part("promise 9: the greatest rank first, then the greatest rest, then the least number");
        index(Expect.ready("F009p9p9p9p9c99900c01990c98910c02980"), 3, 0, 2, 1);
        index(Expect.ready("F009p9p9p9p9c01950c99950c98950c02950"), 3, 0, 1, 2);
        index(Expect.ready("F009p9p9p9p9c07950c07950c07950c07950"), 0, 1, 2, 3);
        index(Expect.ready("F009p9p9p9p9c07950c08950c07950c08950"), 2, 0, 3, 1);
        index(Expect.ready("F009p9p9p9p9c07950c99902c07960c08950"), 2, NONE, 0, 1);
    }

    private static void promise9ExcessOfOneAndTwo() {
        EXPECT.part("promise 9: an excess of 1 and of 2");
        ChargePosts x = Expect.ready("F999p9c99301");
        x.minute(1);
        due("excess of 1", x.post(0, EXCESS), 1);
        due("state with it", x.post(0, STATE), 3);
        x.minute(1);
        due("excess after 2", x.post(0, EXCESS), 0);
        due("state after 2", x.post(0, STATE), 4);
        due("meter, with what is drawn in that minute", x.post(0, METER), 8);
        due("rest, with what is drawn in that minute", x.car(0, 4), 91);
        due("sign, with what is drawn in that minute", x.post(0, SIGN), x.signed(0, 2, 44));
        x.reset(0);
        Expect.greet(x, 0);
        x.minute(2);
        due("excess after reset() and 2 more", x.post(0, EXCESS), 0);
        due("dead again", x.post(0, STATE), 4);
        due("meter then", x.post(0, METER), 16);
    }

    private static void promise9ExcessWithoutADraw() {
        EXPECT.part("promise 9: the excess of 1 stays while nothing is given, and when the message is 5");
        ChargePosts x = Expect.ready("F999p9c99301");
        x.minute(1);
        x.limit(0);
        x.minute(3);
        due("excess while the limit is 0", x.post(0, EXCESS), 1);
        x.say(0, 5);
        due("excess after the end", x.post(0, EXCESS), 1);
        x.limit(1);
        Expect.greet(x, 0);
        x.minute(1);
        due("dead by the second draw", x.post(0, STATE), 4);
        due("meter", x.post(0, METER), 4 + 2);
    }

    private static void promise9LiarAtTheEndOfItsNeed() {
        EXPECT.part("promise 9: the rest does not fall below 0, and the meter counts what is drawn");
        int[] needs = {1, 2, 3, 4};
        int[] rests = {0, 0, 0, 1};
        int[] drawn = {2, 3, 3, 3};
        for (int i = 0; i < needs.length; i++) {
            ChargePosts x = Expect.ready("F999p9c0" + needs[i] + "201");
            x.minute(1);
            due("rest of a liar that needs " + needs[i], x.car(0, 4), rests[i]);
            due("meter of a liar that needs " + needs[i], x.post(0, METER), drawn[i]);
            due("sign of a liar that needs " + needs[i], x.post(0, SIGN), 7 * drawn[i] + 1);
            due("rests", x.about(8), rests[i]);
        }
    }

    /** Post 2 draws what the limits say, a minute each. */
    private static ChargePosts drawing(int... draws) {
        ChargePosts x = Expect.built("F009p1p1p9p1c99900");
        x.plug(2, 0);
        Expect.greet(x, 2);
        for (int draw : draws) {
            x.limit(draw);
            x.minute(1);
        }
        return x;
    }

    private static void promise9SignBeforeItsWrap() {
        EXPECT.part("promise 9: a sign of 9972, the greatest one");
        due("31 * 320 + 7 * 7 + 3 = 9972", drawing(1, 1, 7).post(2, SIGN), 9972);
        due("the draws of 0 between change nothing", drawing(1, 0, 1, 0, 0, 7, 0).post(2, SIGN), 9972);
    }

    private static void promise9SignBehindItsWrap() {
        EXPECT.part("promise 9: the sign modulo 9973");
        due("31 * 320 + 7 * 8 + 3 = 9973 + 6", drawing(1, 1, 8).post(2, SIGN), 6);
        due("31 * 9972 + 7 * 4 + 3 = 31 * 9973", drawing(1, 1, 7, 4).post(2, SIGN), 0);
        due("31 * 9972 + 7 * 3 + 3 = 30 * 9973 + 9966", drawing(1, 1, 7, 3).post(2, SIGN), 9966);
        due("31 * 9972 + 7 * 5 + 3 = 31 * 9973 + 7", drawing(1, 1, 7, 5).post(2, SIGN), 7);
        due("the number of the post counts", drawing(1).post(2, SIGN), 7 + 3);
    }
}
