/** The boundary cases of "Acts" and of promises 10, 11 and 13 to 15. */
final class ActEdgesTest {
    private static final Expect EXPECT = new Expect("edges of the acts");
    private static final int UNKNOWN = -1, BAD = -2, LATE = -3, NONE = -9;
    private static final int CAR = 1, STATE = 2, METER = 7, SIGN = 8;
    private static final int KEPT = 14;

    public static void main(String[] args) {
        promise10FirstAndLast();
        promise10AllPostsTaken();
        promise10NotFreeInAnyState();
        promise10PluggedAgain();
        promise11FirstAndLast();
        promise11InEachState();
        promise11RestStays();
        promise13FirstAndLast();
        promise13OnlyTheDead();
        promise13FourBecomeNone();
        promise14LeastAndGreatest();
        promise15NoActAtAll();
        promise15ThirteenToFifteenActs();
        promise15TheRingManyTimes();
        promise15UndoAndActsInTurn();
        promise15EachActOnce();
        promise15WholeState();
        promise15NothingAfterAgainAndSite();
        promise15WhatIsNoPartOfTheState();
        EXPECT.finish();
    }

    private static void due(String call, long got, long want) {
        EXPECT.due(call, got, want);
    }

    private static ChargePosts great() {
        return Expect.built("F991p1p2p3p4c10100c20200c30300c40400c50500c60600");
    }

    // ---- promises 10 to 14

    private static void promise10FirstAndLast() {
        EXPECT.part("promise 10: the first and the last post and car");
        ChargePosts x = great();
        due("plug(-1, 0)", x.plug(-1, 0), UNKNOWN);
        due("plug(4, 0)", x.plug(4, 0), UNKNOWN);
        due("plug(0, -1)", x.plug(0, -1), UNKNOWN);
        due("plug(0, 6)", x.plug(0, 6), UNKNOWN);
        due("acts", x.about(9), 0);
        due("plug(0, 5)", x.plug(0, 5), 1);
        due("plug(3, 0)", x.plug(3, 0), 2);
        due("plug(3, 5), neither free", x.plug(3, 5), LATE);
        due("plug(4, 5), and no post", x.plug(4, 5), UNKNOWN);
        due("plug(3, 6), and no car", x.plug(3, 6), UNKNOWN);
        due("acts", x.about(9), 2);
    }

    private static void promise10AllPostsTaken() {
        EXPECT.part("promise 10: the number of cars at posts, from the first to the last");
        ChargePosts x = great();
        for (int post = 3; post >= 0; post--) {
            due("plug(" + post + ", " + (post + 2) + ")", x.plug(post, post + 2), 4 - post);
        }
        for (int post = 0; post < 4; post++) {
            due("plug(" + post + ", 0), all posts taken", x.plug(post, 0), LATE);
        }
        x.pull(2);
        due("plug(2, 0), one post free", x.plug(2, 0), 4);
        due("plug(2, 4), taken again", x.plug(2, 4), LATE);
    }

    private static void promise10NotFreeInAnyState() {
        EXPECT.part("promise 10: a post that is plugged, ready, on or dead is not free");
        ChargePosts x = great();
        x.plug(0, 0);
        due("plug() at a plugged post", x.plug(0, 1), LATE);
        due("plug() of its car", x.plug(1, 0), LATE);
        Expect.greet(x, 0);
        due("plug() at a ready post", x.plug(0, 1), LATE);
        due("plug() of its car", x.plug(1, 0), LATE);
        x.minute(1);
        due("plug() at a post that is on", x.plug(0, 1), LATE);
        due("plug() of its car", x.plug(1, 0), LATE);
        x.minute(1);
        due("plug() at a dead post", x.plug(0, 1), LATE);
        due("plug() of its car", x.plug(1, 0), LATE);
        x.pull(0);
        due("plug() at a free post", x.plug(0, 1), 1);
        due("plug() of the car that was there", x.plug(1, 0), 2);
    }

    private static void promise10PluggedAgain() {
        EXPECT.part("promise 10: stage, silence, age and excess become 0, the meter and the sign stay");
        ChargePosts x = Expect.built("F999p9c99301c50500");
        x.plug(0, 0);
        x.minute(1);
        Expect.greet(x, 0);
        x.minute(1);
        x.pull(0);
        x.plug(0, 1);
        int[] want = {1, 1, 0, 0, 0, 0, 4, 29, NONE};
        for (int what = CAR; what <= 9; what++) {
            due("post(0, " + what + ")", x.post(0, what), want[what - CAR]);
        }
        Expect.greet(x, 0);
        x.minute(1);
        due("the meter goes on", x.post(0, METER), 9);
        due("the sign goes on", x.post(0, SIGN), 31 * 29 + 36);
    }

    private static void promise11FirstAndLast() {
        EXPECT.part("promise 11: the first and the last post and car");
        ChargePosts x = great();
        due("pull(0) of a free post", x.pull(0), LATE);
        x.plug(0, 5);
        x.plug(3, 0);
        due("pull(-1)", x.pull(-1), UNKNOWN);
        due("pull(4)", x.pull(4), UNKNOWN);
        due("pull(1)", x.pull(1), LATE);
        due("pull(0)", x.pull(0), 5);
        due("pull(3)", x.pull(3), 0);
        due("pull(3) again", x.pull(3), LATE);
        due("acts", x.about(9), 4);
    }

    private static void promise11InEachState() {
        EXPECT.part("promise 11: whatever the state is");
        for (int state = 1; state <= 4; state++) {
            ChargePosts x = Expect.built("F991p9c99301");
            x.plug(0, 0);
            if (state > 1) {
                Expect.greet(x, 0);
            }
            if (state > 2) {
                x.minute(state - 2);
            }
            due("state before", x.post(0, STATE), state);
            int meter = x.post(0, METER);
            int sign = x.post(0, SIGN);
            due("pull() in state " + state, x.pull(0), 0);
            int[] want = {NONE, 0, 0, 0, 0, 0, meter, sign, NONE};
            for (int what = CAR; what <= 9; what++) {
                due("post(0, " + what + ") then", x.post(0, what), want[what - CAR]);
            }
            due("the car's post then", x.car(0, 5), NONE);
        }
    }

    private static void promise11RestStays() {
        EXPECT.part("promise 11: its rest stays");
        ChargePosts x = Expect.ready("F999p9p9c10900");
        x.minute(1);
        x.pull(0);
        x.minute(9);
        due("rest of a car at no post", x.car(0, 4), 1);
        x.plug(1, 0);
        Expect.greet(x, 1);
        x.minute(1);
        due("rest at another post", x.car(0, 4), 0);
        due("its meter", x.post(1, METER), 1);
        x.pull(1);
        due("rest of a charged car", x.car(0, 4), 0);
    }

    private static void promise13FirstAndLast() {
        EXPECT.part("promise 13: the first and the last post, and the number of dead ones from 4 to 0");
        ChargePosts x = great();
        for (int post = 0; post < 4; post++) {
            x.plug(post, post);
            x.say(post, 1);
        }
        due("dead", x.about(6), 15);
        due("reset(-1)", x.reset(-1), UNKNOWN);
        due("reset(4)", x.reset(4), UNKNOWN);
        due("reset(3)", x.reset(3), 3);
        due("reset(3) again", x.reset(3), LATE);
        due("reset(0)", x.reset(0), 2);
        due("reset(1)", x.reset(1), 1);
        due("reset(2)", x.reset(2), 0);
        due("reset(2) again", x.reset(2), LATE);
    }

    private static void promise13OnlyTheDead() {
        EXPECT.part("promise 13: a post that is free, plugged, ready or on is not dead");
        ChargePosts x = great();
        due("reset() of a free post", x.reset(0), LATE);
        x.plug(0, 0);
        due("reset() of a plugged post", x.reset(0), LATE);
        Expect.greet(x, 0);
        due("reset() of a ready post", x.reset(0), LATE);
        x.minute(1);
        due("reset() of a post that is on", x.reset(0), LATE);
        x.minute(1);
        due("reset() of a dead post", x.reset(0), 0);
    }

    private static void promise13FourBecomeNone() {
        EXPECT.part("promise 13: stage, silence, age and excess become 0, the rest, the meter and the sign stay");
        ChargePosts x = Expect.built("F992p9c99301");
        x.plug(0, 0);
        x.minute(1);
        Expect.greet(x, 0);
        x.minute(1);
        x.say(0, 5);
        x.say(0, 0);
        x.minute(3);
        int[] before = {0, 4, 1, 3, 2, 1, 4, 29};
        int[] after = {0, 1, 0, 0, 0, 0, 4, 29};
        for (int what = CAR; what <= SIGN; what++) {
            due("post(0, " + what + ") before", x.post(0, what), before[what - CAR]);
        }
        due("reset(0)", x.reset(0), 0);
        for (int what = CAR; what <= SIGN; what++) {
            due("post(0, " + what + ")", x.post(0, what), after[what - CAR]);
        }
        due("rest", x.car(0, 4), 95);
    }

    private static void promise14LeastAndGreatest() {
        EXPECT.part("promise 14: a limit from 0 to 99");
        ChargePosts x = great();
        due("limit(-1)", x.limit(-1), BAD);
        due("limit(0)", x.limit(0), 99);
        due("limit then", x.about(2), 0);
        due("limit(100)", x.limit(100), BAD);
        due("limit(99)", x.limit(99), 0);
        due("limit then", x.about(2), 99);
        due("limit(99) again, an act, too", x.limit(99), 99);
        due("acts", x.about(9), 3);
        due("undo()", x.undo(), 2);
        due("undo()", x.undo(), 1);
        due("limit then", x.about(2), 0);
    }

    // ---- promise 15

    private static void promise15NoActAtAll() {
        EXPECT.part("promise 15: no act, and the first one");
        ChargePosts x = great();
        due("undo() of nothing", x.undo(), LATE);
        due("about(9)", x.about(9), 0);
        x.limit(5);
        due("about(9) of one", x.about(9), 1);
        due("undo() of one", x.undo(), 0);
        due("undo() of none again", x.undo(), LATE);
        due("limit", x.about(2), 99);
    }

    private static void promise15ThirteenToFifteenActs() {
        EXPECT.part("promise 15: the last 14 acts");
        for (int acts = 13; acts <= 16; acts++) {
            ChargePosts x = Expect.built("F001");
            for (int v = 1; v <= acts; v++) {
                x.limit(v);
            }
            int kept = Math.min(acts, KEPT);
            due("about(9) of " + acts, x.about(9), kept);
            for (int left = kept - 1; left >= 0; left--) {
                due("undo() of " + acts, x.undo(), left);
                due("limit then", x.about(2), acts - kept + left);
            }
            due("one undo() more of " + acts, x.undo(), LATE);
            due("limit at last of " + acts, x.about(2), acts - kept);
        }
    }

    private static void promise15TheRingManyTimes() {
        EXPECT.part("promise 15: the last 14 of 27 to 43 acts");
        for (int acts = 27; acts <= 43; acts++) {
            ChargePosts x = Expect.built("F001");
            for (int v = 1; v <= acts; v++) {
                x.limit(v);
            }
            for (int left = KEPT - 1; left >= 0; left--) {
                due("undo() of " + acts, x.undo(), left);
                due("limit then", x.about(2), acts - KEPT + left);
            }
            due("one undo() more of " + acts, x.undo(), LATE);
        }
    }

    private static void promise15UndoAndActsInTurn() {
        EXPECT.part("promise 15: undone acts make room for others, and older ones do not come back");
        ChargePosts x = Expect.built("F001");
        for (int v = 1; v <= 15; v++) {
            x.limit(v);
        }
        due("undo()", x.undo(), 13);
        due("limit then", x.about(2), 14);
        x.limit(50);
        due("about(9)", x.about(9), 14);
        x.limit(51);
        due("about(9), full", x.about(9), 14);
        due("undo() of the last", x.undo(), 13);
        due("limit then", x.about(2), 50);
        due("undo() of the one before", x.undo(), 12);
        due("limit then", x.about(2), 14);
        for (int left = 11; left >= 0; left--) {
            due("undo()", x.undo(), left);
            due("limit then", x.about(2), left + 2);
        }
        due("undo() of what is not kept", x.undo(), LATE);
    }

    private static void promise15EachActOnce() {
        EXPECT.part("promise 15: each of the six is an act, and no other call is");
        ChargePosts x = Expect.built("F991p9p9c50900c50900");
        int[] answers = {x.plug(0, 0), x.say(0, 1), x.reset(0), x.pull(0), x.limit(3), x.minute(1)};
        int[] want = {1, 4, 0, 0, 99, 0};
        for (int i = 0; i < want.length; i++) {
            due("act " + i, answers[i], want[i]);
        }
        due("acts", x.about(9), 6);
        x.write('p');
        x.fault();
        x.see(0, 0, 0);
        x.unsee();
        x.seed(5);
        x.drawn(20);
        x.keep(0);
        x.judge(1, 101);
        x.ahead(9, false, 0, 7);
        due("acts after other calls", x.about(9), 6);
        due("undo()", x.undo(), 5);
        due("about(9), as undo() is no act", x.about(9), 5);
    }

    /** All numbers of the state come back, a step after the other; a twin shows what they were. */
    private static void promise15WholeState() {
        EXPECT.part("promise 15: the whole state before the last act");
        int acts = 14;
        for (int done = 1; done <= acts; done++) {
            ChargePosts x = Expect.built("F202p9p5p3c40910c12411c30952c09900");
            for (int i = 0; i < acts; i++) {
                act(x, i);
            }
            for (int i = acts; i > acts - done; i--) {
                due("undo()", x.undo(), i - 1);
            }
            ChargePosts twin = Expect.built("F202p9p5p3c40910c12411c30952c09900");
            for (int i = 0; i < acts - done; i++) {
                act(twin, i);
            }
            EXPECT.same("the object after " + done + " undos", Look.through(x), Look.through(twin));
        }
    }

    private static void act(ChargePosts x, int i) {
        switch (i) {
            case 0, 1, 2 -> x.plug(i, i);
            case 3, 4, 5, 6 -> x.say(1, i - 3);
            case 7, 9 -> x.minute(1);
            case 8 -> x.say(1, 4);
            case 10 -> x.limit(1);
            case 11 -> x.reset(1);
            case 12 -> x.pull(2);
            default -> x.minute(99);
        }
    }

    private static void promise15NothingAfterAgainAndSite() {
        EXPECT.part("promise 15: nothing can be undone after again() and site()");
        ChargePosts x = great();
        x.limit(1);
        x.keep(0);
        x.limit(2);
        x.again(0);
        due("undo() after again()", x.undo(), LATE);
        x.limit(3);
        due("undo() of what came then", x.undo(), 0);
        due("limit", x.about(2), 1);
        x.limit(4);
        x.site();
        due("undo() after site()", x.undo(), LATE);
        due("limit", x.about(2), 99);
    }

    private static void promise15WhatIsNoPartOfTheState() {
        EXPECT.part("promise 15: the text, observations, the start number and the slots are no part of it");
        ChargePosts x = great();
        x.limit(1);
        x.write('!');
        x.see(0, 0, 0);
        x.seed(8);
        x.drawn(1);
        x.minute(5);
        x.keep(1);
        due("undo()", x.undo(), 1);
        due("undo()", x.undo(), 0);
        due("length of the text", x.about(11), 49);
        due("observations", x.about(10), 1);
        due("patience", x.about(3), 1);
        due("amps", x.post(3, 0), 4);
        due("again(1)", x.again(1), 5);
        due("limit that was kept", x.about(2), 1);
        due("start number", x.seed(0), 8 * 6364136223846793005L + 1442695040888963407L);
    }
}
