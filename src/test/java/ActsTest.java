/** Promises 9 to 15: minute, plug, pull, say, reset, limit and undo. */
final class ActsTest {
    private static final Expect EXPECT = new Expect("acts");
    private static final int UNKNOWN = -1, BAD = -2, LATE = -3, NONE = -9;
    private static final int CAR = 1, STATE = 2, STAGE = 3, SILENCE = 4, AGE = 5, EXCESS = 6, METER = 7, SIGN = 8;

    public static void main(String[] args) {
        promise9Minute();
        promise10Plug();
        promise10Late();
        promise11Pull();
        promise12SayInOrder();
        promise12SayWrong();
        promise12SayEnd();
        promise12Errors();
        promise13Reset();
        promise14Limit();
        promise15Undo();
        promise15OneStateForEachAct();
        promise15Fourteen();
        promise15ErrorsAreNoActs();
        promise15WhatStays();
        EXPECT.finish();
    }

    private static void due(String call, long got, long want) {
        EXPECT.due(call, got, want);
    }

    private static void promise9Minute() {
        EXPECT.part("promise 9");
        ChargePosts x = Expect.ready("F109p7p4c90910c90900");
        due("minute(0)", x.minute(0), BAD);
        due("minute(-1)", x.minute(-1), BAD);
        due("minute(100)", x.minute(100), BAD);
        due("about(4) after errors", x.about(4), 0);
        due("about(9) after errors", x.about(9), 10);
        due("minute(1)", x.minute(1), 10);
        due("minute(3)", x.minute(3), 40);
        due("about(4)", x.about(4), 4);
        due("about(9)", x.about(9), 12);
        due("minute(99)", x.minute(99), 90);
        due("about(4)", x.about(4), 103);
        due("both posts died of silence", x.about(6), 3);
        due("undo()", x.undo(), 12);
        due("about(4) after undo()", x.about(4), 4);
        due("minute() without posts", new ChargePosts().minute(99), 0);
    }

    private static void promise10Plug() {
        EXPECT.part("promise 10");
        ChargePosts x = Expect.built("F099p7p4c20900c20901c20902");
        due("plug(1, 2)", x.plug(1, 2), 1);
        due("state", x.post(1, STATE), 1);
        due("car", x.post(1, CAR), 2);
        due("the car's post", x.car(2, 5), 1);
        due("plug(0, 0)", x.plug(0, 0), 2);
        x.say(0, 0);
        x.minute(1);
        x.pull(0);
        due("plug(0, 1)", x.plug(0, 1), 2);
        for (int what = STAGE; what <= SIGN; what++) {
            due("post(0, " + what + ")", x.post(0, what), 0);
        }
        due("plug(-1, 0)", x.plug(-1, 0), UNKNOWN);
        due("plug(2, 0)", x.plug(2, 0), UNKNOWN);
        due("plug(4, 0)", x.plug(4, 0), UNKNOWN);
        due("plug(0, -1)", x.plug(0, -1), UNKNOWN);
        due("plug(0, 3)", x.plug(0, 3), UNKNOWN);
        due("plug(0, -9)", x.plug(0, NONE), UNKNOWN);
        due("plug(0, 6)", x.plug(0, 6), UNKNOWN);
        due("plug(2, 2) of a car at a post", x.plug(2, 2), UNKNOWN);
    }

    private static void promise10Late() {
        ChargePosts x = Expect.built("F091p7p4c20900c20901c20902");
        x.plug(0, 0);
        due("plug() at a plugged post", x.plug(0, 1), LATE);
        due("plug() of a car at another post", x.plug(1, 0), LATE);
        due("plug() of the same car at the same post", x.plug(0, 0), LATE);
        x.minute(2);
        due("plug() at a dead post", x.plug(0, 1), LATE);
        due("plug() of the car of a dead post", x.plug(1, 0), LATE);
        due("cars at posts", x.plug(1, 1), 2);
        x.pull(0);
        due("plug() of a car that was pulled out", x.plug(0, 0), 2);
        due("its state", x.post(0, STATE), 1);
    }

    private static void promise11Pull() {
        EXPECT.part("promise 11");
        ChargePosts x = Expect.ready("F091p7p4c20901c20900");
        x.minute(1);
        due("excess before", x.post(0, EXCESS), 1);
        due("silence before", x.post(0, SILENCE), 1);
        int sign = x.post(0, SIGN);
        due("pull(0)", x.pull(0), 0);
        int[] want = {NONE, 0, 0, 0, 0, 0, 8, sign};
        for (int what = CAR; what <= SIGN; what++) {
            due("post(0, " + what + ")", x.post(0, what), want[what - CAR]);
        }
        due("rest", x.car(0, 4), 12);
        due("post of the car", x.car(0, 5), NONE);
        due("pull(0) again", x.pull(0), LATE);
        due("pull(2)", x.pull(2), UNKNOWN);
        due("pull(-1)", x.pull(-1), UNKNOWN);
        x.minute(1);
        due("a dead post", x.post(1, STATE), 4);
        due("pull() from a dead post", x.pull(1), 1);
        due("its state", x.post(1, STATE), 0);
        due("its silence", x.post(1, SILENCE), 0);
        due("plug(1, 0)", x.plug(1, 0), 1);
        due("pull(1) of another car", x.pull(1), 0);
    }

    private static void promise12SayInOrder() {
        EXPECT.part("promise 12");
        ChargePosts x = Expect.built("F099p7c20900");
        x.plug(0, 0);
        x.minute(2);
        int[] states = {1, 1, 1, 2};
        for (int letter = 0; letter < 4; letter++) {
            due("say(0, " + letter + ")", x.say(0, letter), states[letter]);
            due("stage", x.post(0, STAGE), letter + 1);
            due("silence", x.post(0, SILENCE), 0);
            x.minute(letter < 3 ? 1 : 2);
            due("silence, minutes later", x.post(0, SILENCE), letter < 3 ? 1 : 2);
            due("say(0, 4)", x.say(0, 4), letter < 3 ? 1 : 3);
            due("stage", x.post(0, STAGE), letter + 1);
            due("silence", x.post(0, SILENCE), 0);
        }
        due("say(0, 3) once more", x.say(0, 3), 4);
        due("stage", x.post(0, STAGE), 4);
        due("say(0, 4) to a dead post", x.say(0, 4), LATE);
    }

    private static void promise12SayWrong() {
        for (int stage = 0; stage < 4; stage++) {
            for (int letter = 0; letter < 4; letter++) {
                ChargePosts x = Expect.built("F099p7c20901");
                x.plug(0, 0);
                for (int earlier = 0; earlier < stage; earlier++) {
                    x.say(0, earlier);
                }
                x.minute(1);
                boolean right = letter == stage;
                due("say(0, " + letter + ") in stage " + stage, x.say(0, letter), !right ? 4 : stage == 3 ? 2 : 1);
                due("stage then", x.post(0, STAGE), right ? stage + 1 : stage);
                due("silence then", x.post(0, SILENCE), 0);
                due("age then", x.post(0, AGE), 1);
            }
        }
        for (int letter = 0; letter < 4; letter++) {
            ChargePosts x = Expect.ready("F099p7c20900");
            due("say(0, " + letter + ") to a ready post", x.say(0, letter), 4);
            due("stage of it", x.post(0, STAGE), 4);
            x.undo();
            x.minute(1);
            due("say(0, " + letter + ") to a post that is on", x.say(0, letter), 4);
        }
    }

    private static void promise12SayEnd() {
        ChargePosts x = Expect.ready("F099p7c20900");
        due("say(0, 4) to a ready post", x.say(0, 4), 2);
        due("say(0, 5) to a ready post", x.say(0, 5), 1);
        due("stage", x.post(0, STAGE), 0);
        x.minute(3);
        due("age before the end", x.post(0, AGE), 3);
        due("silence before the end", x.post(0, SILENCE), 3);
        x.say(0, 0);
        due("say(0, 5) to a plugged post", x.say(0, 5), 1);
        due("stage", x.post(0, STAGE), 0);
        due("age", x.post(0, AGE), 0);
        due("silence", x.post(0, SILENCE), 0);
        Expect.greet(x, 0);
        x.minute(1);
        due("say(0, 4) to a post that is on", x.say(0, 4), 3);
        due("say(0, 5) to a post that is on", x.say(0, 5), 1);
        due("meter", x.post(0, METER), 7);
        due("stage", x.post(0, STAGE), 0);
        due("car", x.post(0, CAR), 0);
    }

    private static void promise12Errors() {
        ChargePosts x = Expect.built("F091p7p7p7c20900c20902");
        x.plug(0, 0);
        x.plug(1, 1);
        due("say(3, 0)", x.say(3, 0), UNKNOWN);
        due("say(-1, 0)", x.say(-1, 0), UNKNOWN);
        due("say(3, 6)", x.say(3, 6), UNKNOWN);
        due("say(0, 6)", x.say(0, 6), BAD);
        due("say(0, -1)", x.say(0, -1), BAD);
        due("say(2, 6) to a free post", x.say(2, 6), BAD);
        due("say(1, 6) to a mute car", x.say(1, 6), BAD);
        for (int letter = 0; letter < 6; letter++) {
            due("say(2, " + letter + ") to a free post", x.say(2, letter), LATE);
            due("say(1, " + letter + ") to a mute car", x.say(1, letter), LATE);
        }
        x.minute(4);
        for (int letter = 0; letter < 6; letter++) {
            due("say(0, " + letter + ") to a dead post", x.say(0, letter), LATE);
            due("say(1, " + letter + ") to a mute car that is on", x.say(1, letter), LATE);
        }
        due("silence of the dead post", x.post(0, SILENCE), 2);
        due("acts", x.about(9), 3);
    }

    private static void promise13Reset() {
        EXPECT.part("promise 13");
        ChargePosts x = Expect.ready("F993p7p9p4c90901c90900c20900");
        due("reset() of a ready post", x.reset(0), LATE);
        x.minute(1);
        due("reset() of a post that is on", x.reset(0), LATE);
        x.minute(3);
        due("dead posts", x.about(6), 7);
        due("reset(1)", x.reset(1), 2);
        int[] want = {1, 1, 0, 0, 0, 0, 27};
        for (int what = CAR; what <= METER; what++) {
            due("post(1, " + what + ")", x.post(1, what), want[what - CAR]);
        }
        due("sign", x.post(1, SIGN), x.signed(1, 3, 999));
        due("rest", x.car(1, 4), 63);
        due("reset(1) again", x.reset(1), LATE);
        due("reset(0)", x.reset(0), 1);
        due("reset(2)", x.reset(2), 0);
        due("reset(3)", x.reset(3), UNKNOWN);
        due("reset(-1)", x.reset(-1), UNKNOWN);
        x.pull(0);
        due("reset() of a free post", x.reset(0), LATE);
        x.say(1, 0);
        x.minute(1);
        x.say(1, 0);
        due("dead by a message", x.post(1, STATE), 4);
        due("stage of it", x.post(1, STAGE), 1);
        due("age of it", x.post(1, AGE), 1);
        due("reset(1) of it", x.reset(1), 0);
        due("stage", x.post(1, STAGE), 0);
        due("age", x.post(1, AGE), 0);
    }

    private static void promise14Limit() {
        EXPECT.part("promise 14");
        ChargePosts x = Expect.ready("F129p9c90900");
        due("limit(0)", x.limit(0), 12);
        due("limit(99)", x.limit(99), 0);
        due("limit(4)", x.limit(4), 99);
        due("limit(4) again", x.limit(4), 4);
        due("limit(100)", x.limit(100), BAD);
        due("limit(-1)", x.limit(-1), BAD);
        due("about(2)", x.about(2), 4);
        due("minute(1)", x.minute(1), 4);
    }

    private static void promise15Undo() {
        EXPECT.part("promise 15");
        ChargePosts x = Expect.built("F091p7c20900");
        due("undo() of nothing", x.undo(), LATE);
        x.plug(0, 0);
        Expect.greet(x, 0);
        x.minute(1);
        x.limit(5);
        x.minute(1);
        x.reset(0);
        x.pull(0);
        due("undo() of pull()", x.undo(), 9);
        due("car", x.post(0, CAR), 0);
        due("state", x.post(0, STATE), 1);
        due("undo() of reset()", x.undo(), 8);
        due("state", x.post(0, STATE), 4);
        due("silence", x.post(0, SILENCE), 2);
        due("undo() of minute()", x.undo(), 7);
        due("state", x.post(0, STATE), 3);
        due("minute", x.about(4), 1);
        due("limit", x.about(2), 5);
        due("undo() of limit()", x.undo(), 6);
        due("limit", x.about(2), 9);
        due("rest", x.car(0, 4), 13);
        due("sign", x.post(0, SIGN), 50);
        due("undo() of minute()", x.undo(), 5);
        due("rest", x.car(0, 4), 20);
        due("meter", x.post(0, METER), 0);
        due("sign", x.post(0, SIGN), 0);
        due("undo() of say()", x.undo(), 4);
        due("stage", x.post(0, STAGE), 3);
        due("state", x.post(0, STATE), 1);
        x.undo();
        x.undo();
        due("undo() of the first say()", x.undo(), 1);
        due("stage", x.post(0, STAGE), 0);
        due("undo() of plug()", x.undo(), 0);
        due("car", x.post(0, CAR), NONE);
    }

    private static void promise15OneStateForEachAct() {
        ChargePosts x = Expect.built("F091p7c20900");
        x.plug(0, 0);
        due("undo() of plug()", x.undo(), 0);
        due("car", x.post(0, CAR), NONE);
        due("state", x.post(0, STATE), 0);
        x.limit(9);
        due("an act that changes nothing", x.about(9), 1);
        x.plug(0, 0);
        x.say(0, 4);
        due("another one", x.about(9), 3);
        x.undo();
        due("plugged still", x.post(0, STATE), 1);
        x.minute(50);
        due("minutes are one act", x.about(9), 3);
        x.undo();
        due("minute", x.about(4), 0);
        due("silence", x.post(0, SILENCE), 0);
    }

    private static void promise15Fourteen() {
        ChargePosts x = Expect.built("F001");
        for (int v = 1; v <= 20; v++) {
            x.limit(v);
            due("acts that can be undone", x.about(9), Math.min(v, 14));
        }
        for (int left = 13; left >= 11; left--) {
            due("undo()", x.undo(), left);
        }
        due("limit after 3 undos", x.about(2), 17);
        x.limit(50);
        x.limit(51);
        due("acts then", x.about(9), 13);
        due("undo()", x.undo(), 12);
        due("limit", x.about(2), 50);
        due("undo()", x.undo(), 11);
        due("limit", x.about(2), 17);
        for (int left = 10; left >= 0; left--) {
            due("undo()", x.undo(), left);
            due("limit after undo()", x.about(2), left + 6);
        }
        due("undo() of what is not kept", x.undo(), LATE);
        due("limit then", x.about(2), 6);
    }

    private static void promise15ErrorsAreNoActs() {
        ChargePosts x = Expect.built("F001p1c10100");
        for (int v = 1; v <= 14; v++) {
            x.limit(v);
        }
        x.limit(100);
        x.minute(0);
        x.plug(1, 0);
        x.pull(0);
        x.say(0, 0);
        x.reset(0);
        x.ahead(5, true, 0, 1);
        x.done(0);
        x.least(3);
        x.judge(1, 101);
        x.which();
        x.share(0, true);
        x.chance(1, 1, true);
        x.drawn(3);
        x.keep(0);
        x.see(0, 1, 1);
        due("acts", x.about(9), 14);
        due("limit", x.about(2), 14);
        due("minute", x.about(4), 0);
        for (int left = 13; left >= 0; left--) {
            due("undo()", x.undo(), left);
            due("limit after undo()", x.about(2), left);
        }
    }

    private static void promise15WhatStays() {
        ChargePosts x = Expect.built("F001p1c10100");
        x.limit(7);
        x.seed(42);
        x.see(0, 0, 0);
        x.write('p');
        x.undo();
        due("start number", x.seed(0), 42);
        due("observations", x.about(10), 1);
        due("length of the text", x.about(11), 13);
        due("patience", x.about(3), 1);
    }
}
