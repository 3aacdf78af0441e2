/** The boundary cases of "Site" and "Text" and of promises 1 to 8. */
final class SiteEdgesTest {
    private static final Expect EXPECT = new Expect("edges of the site");
    private static final int UNKNOWN = -1, BAD = -2, LATE = -3, FULL = -4, NONE = -9;
    private static final String DIGITS = "0123456789", FROM_1 = "123456789";
    private static final String FOUR_POSTS = "p1p9p5p1", SIX_CARS = "c01100c99992c50501c01100c99992c50501";

    public static void main(String[] args) {
        promise1NothingThere();
        promise2LeastAndGreatestByte();
        promise2The70thByteAndThe71st();
        promise2FullAgainAfterWipe();
        promise3EmptyOneAndFull();
        promise3NothingIsLeftOfTheOldText();
        promise3SiteStays();
        promise4OfEachByteOfTheHead();
        promise4OfEachByteOfAPost();
        promise4OfEachByteOfACar();
        promise4AfterTheLastPart();
        promise4TooEarly();
        promise4WhateverCameBehind();
        promise4LongestTexts();
        promise5NoPostsAndNoCars();
        promise5LeastProperties();
        promise5GreatestProperties();
        promise5FourPostsAndSixCars();
        promise5PartsInAnyOrder();
        promise5ASecondTime();
        promise5AllUndosAndSlotsAreGone();
        promise6FirstAndLastNumber();
        promise6AllOnAndAllDead();
        promise6FullCounts();
        promise7FirstAndLastPost();
        promise7FirstAndLastNumber();
        promise7IndexInEachState();
        promise8FirstAndLastCar();
        promise8FirstAndLastNumber();
        EXPECT.finish();
    }

    private static void due(String call, long got, long want) {
        EXPECT.due(call, got, want);
    }

    private static void promise1NothingThere() {
        EXPECT.part("promise 1: no posts, no cars, an empty text, nothing seen, nothing saved, start number 0");
        ChargePosts x = new ChargePosts();
        int[] about = {0, 0, 0, 1, 0, 0, 0, 0, 0, 0, 0, 0};
        for (int what = 0; what < 12; what++) {
            due("about(" + what + ")", x.about(what), about[what]);
        }
        due("post(0, 0)", x.post(0, 0), UNKNOWN);
        due("car(0, 0)", x.car(0, 0), UNKNOWN);
        due("plug(0, 0)", x.plug(0, 0), UNKNOWN);
        due("pull(0)", x.pull(0), UNKNOWN);
        due("say(0, 0)", x.say(0, 0), UNKNOWN);
        due("reset(0)", x.reset(0), UNKNOWN);
        due("fault()", x.fault(), 0);
        due("site()", x.site(), LATE);
        due("undo()", x.undo(), LATE);
        due("again(0)", x.again(0), LATE);
        due("again(1)", x.again(1), LATE);
        due("which()", x.which(), 0);
        due("least(0)", x.least(0), 0);
        due("least(40)", x.least(40), 0);
        due("chance(9, 10, true)", x.chance(9, 10, true), 1);
        due("chance(9, 10, false)", x.chance(9, 10, false), 1);
        due("wipe()", x.wipe(), 0);
        due("unsee()", x.unsee(), 0);
        due("seed(0)", x.seed(0), 0);
        due("drawn(20)", x.drawn(20), 0);
        due("minute(99)", x.minute(99), 0);
        due("limit(0)", x.limit(0), 0);
        due("undo() of limit()", x.undo(), 1);
    }

    private static void promise2LeastAndGreatestByte() {
        EXPECT.part("promise 2: a byte from 0 to 255");
        ChargePosts x = new ChargePosts();
        due("write(-1)", x.write(-1), BAD);
        due("write(0)", x.write(0), 1);
        due("write(255)", x.write(255), 2);
        due("write(256)", x.write(256), BAD);
        due("length", x.about(11), 2);
        ChargePosts y = Expect.written("F001");
        due("write(112)", y.write('p'), 5);
        due("write(256 + 49)", y.write(256 + '1'), BAD);
        due("fault(), where a digit is missing still", y.fault(), 5);
    }

    private static void promise2The70thByteAndThe71st() {
        EXPECT.part("promise 2: at most 70 bytes");
        ChargePosts x = new ChargePosts();
        for (int n = 1; n <= 70; n++) {
            due("byte " + n, x.write(n), n);
        }
        due("byte 71", x.write(71), FULL);
        due("byte 71, out of range", x.write(-1), BAD);
        due("length", x.about(11), 70);
    }

    private static void promise2FullAgainAfterWipe() {
        EXPECT.part("promise 2: the length begins again at 1 after wipe()");
        ChargePosts x = new ChargePosts();
        for (int round = 0; round < 3; round++) {
            for (int n = 1; n <= 70; n++) {
                due("byte " + n + " of round " + round, x.write('F'), n);
            }
            due("byte 71 of round " + round, x.write('F'), FULL);
            due("wipe() of round " + round, x.wipe(), 70);
        }
        due("length", x.about(11), 0);
    }

    private static void promise3EmptyOneAndFull() {
        EXPECT.part("promise 3: the length that it had");
        for (int n : new int[] {0, 1, 2, 69, 70}) {
            ChargePosts x = Expect.written("x".repeat(n));
            due("wipe() of " + n, x.wipe(), n);
            due("wipe() after it", x.wipe(), 0);
            due("length", x.about(11), 0);
            due("fault()", x.fault(), 0);
        }
    }

    private static void promise3NothingIsLeftOfTheOldText() {
        EXPECT.part("promise 3: a shorter text ends where it ends, whatever was there before");
        String text = "F999p9c99992";
        int[] faults = {0, 1, 2, 3, NONE, 5, NONE, 7, 8, 9, 10, 11, NONE};
        for (int n = 0; n <= text.length(); n++) {
            ChargePosts x = Expect.written(text);
            x.wipe();
            Expect.write(x, text.substring(0, n));
            due("fault() of the first " + n, x.fault(), faults[n]);
            due("site() of the first " + n, x.site(), faults[n] != NONE ? LATE : n < 6 ? 0 : 1);
            due("cars of the first " + n, x.about(1), n < 12 ? 0 : 1);
        }
    }

    private static void promise3SiteStays() {
        EXPECT.part("promise 3: only the text is emptied");
        ChargePosts x = Expect.built("F123p4c05400");
        x.plug(0, 0);
        due("wipe()", x.wipe(), 12);
        int[] about = {1, 1, 12, 3, 0, 0, 0, 0, 5, 1, 0, 0};
        for (int what = 0; what < 12; what++) {
            due("about(" + what + ")", x.about(what), about[what]);
        }
        due("site() of nothing", x.site(), LATE);
        due("car of post 0", x.post(0, 1), 0);
    }

    // ---- promise 4

    /** Each of the 256 bytes behind a beginning: the right ones end a part (NONE) or leave it open. */
    private static void each(String beginning, String right, boolean ends) {
        int at = beginning.length();
        for (int b = 0; b < 256; b++) {
            int want = right.indexOf(b) < 0 ? at : ends ? NONE : at + 1;
            due("fault() of " + beginning + " and byte " + b, Expect.written(beginning + (char) b).fault(), want);
        }
    }

    private static void fault(String text, int want) {
        due("fault() of " + text, Expect.written(text).fault(), want);
    }

    private static void promise4OfEachByteOfTheHead() {
        EXPECT.part("promise 4: F, two digits, a digit from 1 to 9, and then p or c");
        each("", "F", false);
        each("F", DIGITS, false);
        each("F0", DIGITS, false);
        each("F9", DIGITS, false);
        each("F00", FROM_1, true);
        each("F99", FROM_1, true);
        each("F001", "pc", false);
        each("F999", "pc", false);
    }

    private static void promise4OfEachByteOfAPost() {
        EXPECT.part("promise 4: p and a digit from 1 to 9");
        each("F001p", FROM_1, true);
        each("F001p1", "pc", false);
        each("F001" + SIX_CARS + "p1p9p5p", FROM_1, true);
    }

    private static void promise4OfEachByteOfACar() {
        EXPECT.part("promise 4: c, 01 to 99, 1 to 9, 0 to 9, 0 to 2");
        each("F001c", DIGITS, false);
        each("F001c0", FROM_1, false);
        each("F001c1", DIGITS, false);
        each("F001c9", DIGITS, false);
        each("F001c01", FROM_1, false);
        each("F001c99", FROM_1, false);
        each("F001c011", DIGITS, false);
        each("F001c019", DIGITS, false);
        each("F001c0110", "012", true);
        each("F001c9999", "012", true);
        each("F001c01100", "pc", false);
        each("F001" + FOUR_POSTS + SIX_CARS.substring(0, 35), "012", true);
    }

    private static void promise4AfterTheLastPart() {
        EXPECT.part("promise 4: also the p of a fifth post and the c of a seventh car");
        each("F001p1p9p5", "pc", false);
        each("F001" + FOUR_POSTS, "c", false);
        each("F001" + SIX_CARS.substring(0, 30), "pc", false);
        each("F001" + SIX_CARS, "p", false);
        each("F001" + FOUR_POSTS + SIX_CARS, "", false);
        each("F001" + SIX_CARS + FOUR_POSTS, "", false);
        fault("F001" + FOUR_POSTS + "p", 12);
        fault("F001" + FOUR_POSTS + "p1", 12);
        fault("F001" + FOUR_POSTS + "c01100p1", 18);
        fault("F001" + SIX_CARS + "c", 40);
        fault("F001" + SIX_CARS + "c01100", 40);
        fault("F001" + SIX_CARS + "p1c01100", 42);
    }

    private static void promise4TooEarly() {
        EXPECT.part("promise 4: its length if it only ends too early");
        String text = "F999p9c99992p1c01100";
        int[] ends = {0, 1, 2, 3, NONE, 5, NONE, 7, 8, 9, 10, 11, NONE, 13, NONE, 15, 16, 17, 18, 19, NONE};
        for (int n = 0; n < ends.length; n++) {
            fault(text.substring(0, n), ends[n]);
        }
    }

    private static void promise4WhateverCameBehind() {
        EXPECT.part("promise 4: the first wrong byte, whatever came behind it");
        String rest = "F101p1c01100";
        String[] wrong = {"G", "F:", "F1:", "F100", "F101q", "F101p0", "F101c:", "F101c00", "F101c010", "F101c011x",
            "F101c01103"};
        for (String text : wrong) {
            fault(text, text.length() - 1);
            fault(text + rest, text.length() - 1);
            fault(text + "0", text.length() - 1);
            fault(text + "\0\u00ff", text.length() - 1);
        }
    }

    private static void promise4LongestTexts() {
        EXPECT.part("promise 4: the greatest length is not considered");
        String most = "F999" + FOUR_POSTS + SIX_CARS;
        fault(most, NONE);
        fault(most + "p".repeat(22), 48);
        fault(most + "c".repeat(22), 48);
        fault("F999" + "c99992p9".repeat(4) + "c99992".repeat(2) + "p9".repeat(11), 48);
        fault("F999" + "p9".repeat(33), 12);
        fault("F999" + "c99992".repeat(11), 40);
        fault("F999p9" + "c99992".repeat(6) + "p9".repeat(12), 48);
        fault("F".repeat(70), 1);
    }

    // ---- promise 5

    private static void promise5NoPostsAndNoCars() {
        EXPECT.part("promise 5: no parts");
        ChargePosts x = Expect.written("F001");
        due("site()", x.site(), 0);
        int[] about = {0, 0, 0, 1, 0, 0, 0, 0, 0, 0, 0, 4};
        for (int what = 0; what < 12; what++) {
            due("about(" + what + ")", x.about(what), about[what]);
        }
        due("site() of a post alone", Expect.written("F001p1").site(), 1);
        due("site() of a car alone", Expect.written("F001c01100").site(), 0);
    }

    private static void car(ChargePosts x, int car, int... want) {
        for (int what = 0; what < want.length; what++) {
            due("car(" + car + ", " + what + ")", x.car(car, what), want[what]);
        }
    }

    private static void promise5LeastProperties() {
        EXPECT.part("promise 5: the least limit, patience, amps, need, maximum, rank and kind");
        ChargePosts x = Expect.built("F001p1c01100");
        due("limit", x.about(2), 0);
        due("patience", x.about(3), 1);
        due("amps", x.post(0, 0), 1);
        car(x, 0, 1, 1, 0, 0, 1, NONE);
        due("limit, first digit", Expect.built("F011").about(2), 1);
        due("limit, last digit", Expect.built("F101").about(2), 10);
        due("need 10", Expect.built("F001c10100").car(0, 0), 10);
        due("need 9", Expect.built("F001c09100").car(0, 4), 9);
    }

    private static void promise5GreatestProperties() {
        EXPECT.part("promise 5: the greatest limit, patience, amps, need, maximum, rank and kind");
        ChargePosts x = Expect.built("F999p9c99992c99991");
        due("limit", x.about(2), 99);
        due("patience", x.about(3), 9);
        due("amps", x.post(0, 0), 9);
        car(x, 0, 99, 9, 9, 2, 99, NONE);
        car(x, 1, 99, 9, 9, 1, 99, NONE);
    }

    private static void promise5FourPostsAndSixCars() {
        EXPECT.part("promise 5: at most 4 posts and 6 cars, all free, with nothing used");
        ChargePosts x = Expect.written("F999" + FOUR_POSTS + SIX_CARS);
        due("site()", x.site(), 4);
        due("cars", x.about(1), 6);
        due("rests", x.about(8), 300);
        int[] amps = {1, 9, 5, 1};
        for (int post = 0; post < 4; post++) {
            int[] want = {amps[post], NONE, 0, 0, 0, 0, 0, 0, 0, NONE};
            for (int what = 0; what < 10; what++) {
                due("post(" + post + ", " + what + ")", x.post(post, what), want[what]);
            }
        }
        for (int car = 0; car < 6; car += 3) {
            car(x, car, 1, 1, 0, 0, 1, NONE);
            car(x, car + 1, 99, 9, 9, 2, 99, NONE);
            car(x, car + 2, 50, 5, 0, 1, 50, NONE);
        }
        due("post(4, 0)", x.post(4, 0), UNKNOWN);
        due("car(6, 0)", x.car(6, 0), UNKNOWN);
    }

    private static void promise5PartsInAnyOrder() {
        EXPECT.part("promise 5: parts in any order");
        ChargePosts x = Expect.built("F001c11100p2c22210p3p4c33322p5");
        for (int post = 0; post < 4; post++) {
            due("amps of post " + post, x.post(post, 0), post + 2);
        }
        car(x, 0, 11, 1, 0, 0, 11, NONE);
        car(x, 1, 22, 2, 1, 0, 22, NONE);
        car(x, 2, 33, 3, 2, 2, 33, NONE);
    }

    private static void promise5ASecondTime() {
        EXPECT.part("promise 5: a smaller site and a greater one after it");
        ChargePosts x = Expect.ready("F991" + FOUR_POSTS + SIX_CARS);
        x.minute(99);
        x.wipe();
        Expect.write(x, "F001p7");
        due("site() with one post", x.site(), 1);
        int[] about = {1, 0, 0, 1, 0, 0, 0, 0, 0, 0, 0, 6};
        for (int what = 0; what < 12; what++) {
            due("about(" + what + ")", x.about(what), about[what]);
        }
        x.wipe();
        Expect.write(x, "F001" + FOUR_POSTS + SIX_CARS);
        due("site() with four posts", x.site(), 4);
        for (int post = 0; post < 4; post++) {
            for (int what = 2; what < 9; what++) {
                due("post(" + post + ", " + what + ")", x.post(post, what), 0);
            }
            due("car of post " + post, x.post(post, 1), NONE);
        }
        due("rests", x.about(8), 300);
    }

    private static void promise5AllUndosAndSlotsAreGone() {
        EXPECT.part("promise 5: nothing can be undone, and the saved states are discarded");
        ChargePosts x = Worlds.busy();
        x.keep(1);
        due("acts before", x.about(9), 14);
        due("site()", x.site(), 4);
        due("acts", x.about(9), 0);
        due("undo()", x.undo(), LATE);
        due("again(0)", x.again(0), LATE);
        due("again(1)", x.again(1), LATE);
        due("observations", x.about(10), 2);
        due("length of the text", x.about(11), 48);
        due("start number", x.seed(0), 77);
        due("keep(0)", x.keep(0), 0);
        due("again(0), saved after it", x.again(0), 0);
        due("again(1), not saved after it", x.again(1), LATE);
    }

    // ---- promises 6 to 8

    private static void promise6FirstAndLastNumber() {
        EXPECT.part("promise 6: what from 0 to 11");
        ChargePosts x = Worlds.busy();
        due("about(-1)", x.about(-1), BAD);
        due("about(0)", x.about(0), 4);
        due("about(11)", x.about(11), 48);
        due("about(12)", x.about(12), BAD);
    }

    private static void promise6AllOnAndAllDead() {
        EXPECT.part("promise 6: the empty and the full set of posts");
        ChargePosts x = Expect.ready("F991p9p9p9p9c99900c99900c99900c99900");
        due("on before the first minute", x.about(5), 0);
        x.minute(1);
        due("on", x.about(5), 15);
        due("dead", x.about(6), 0);
        x.minute(1);
        due("on after the patience", x.about(5), 0);
        due("dead after the patience", x.about(6), 15);
        x.pull(3);
        due("dead without post 3", x.about(6), 7);
        x.reset(0);
        due("dead without post 0", x.about(6), 6);
    }

    private static void promise6FullCounts() {
        EXPECT.part("promise 6: the greatest counts");
        ChargePosts x = Expect.built("F999p9p9p9p9" + "c99900".repeat(6));
        due("sum of the rests", x.about(8), 594);
        for (int i = 0; i < 6; i++) {
            x.see(0, 0, 0);
        }
        due("observations", x.about(10), 6);
        x.see(0, 0, 0);
        due("observations after a seventh", x.about(10), 6);
        for (int i = 1; i <= 15; i++) {
            x.minute(99);
        }
        due("acts", x.about(9), 14);
        due("minute", x.about(4), 15 * 99);
        Expect.write(x, "x".repeat(30));
        due("length of the text", x.about(11), 70);
    }

    private static void promise7FirstAndLastPost() {
        EXPECT.part("promise 7: the first and the last post");
        for (int posts = 0; posts <= 4; posts++) {
            ChargePosts x = Expect.built("F001" + "p7".repeat(posts));
            due("post(-1, 0) of " + posts, x.post(-1, 0), UNKNOWN);
            for (int post = 0; post < posts; post++) {
                due("post(" + post + ", 0) of " + posts, x.post(post, 0), 7);
            }
            due("post behind the last of " + posts, x.post(posts, 0), UNKNOWN);
            due("post behind the last of " + posts + ", wrong number", x.post(posts, 10), UNKNOWN);
        }
    }

    private static void promise7FirstAndLastNumber() {
        EXPECT.part("promise 7: what from 0 to 9");
        ChargePosts x = Worlds.busy();
        due("post(0, -1)", x.post(0, -1), BAD);
        due("post(0, 0)", x.post(0, 0), 9);
        due("post(0, 1)", x.post(0, 1), 0);
        due("post(0, 8)", x.post(0, 8), x.signed(0, 3, 999));
        due("post(0, 9)", x.post(0, 9), 1);
        due("post(0, 10)", x.post(0, 10), BAD);
        due("post(3, 1) of a free post", x.post(3, 1), NONE);
        due("post(3, 9) of a free post", x.post(3, 9), NONE);
    }

    private static void promise7IndexInEachState() {
        EXPECT.part("promise 7: the index, NONE if the post is not on");
        ChargePosts x = Expect.built("F991p1p1p1p1c02100c01900c01910c01920");
        due("free", x.post(0, 9), NONE);
        x.plug(0, 0);
        due("plugged", x.post(0, 9), NONE);
        Expect.greet(x, 0);
        due("ready", x.post(0, 9), NONE);
        x.minute(1);
        due("on, the only one", x.post(0, 9), 0);
        due("another one, free", x.post(1, 9), NONE);
        for (int post = 1; post < 4; post++) {
            x.plug(post, post);
            Expect.greet(x, post);
        }
        x.say(0, 4);
        x.minute(1);
        int[] index = {2, 3, 1, 0};
        for (int post = 0; post < 4; post++) {
            due("all are on and charged, post " + post, x.post(post, 9), index[post]);
        }
        x.minute(1);
        due("dead", x.post(0, 9), NONE);
    }

    private static void promise8FirstAndLastCar() {
        EXPECT.part("promise 8: the first and the last car");
        for (int cars = 0; cars <= 6; cars++) {
            ChargePosts x = Expect.built("F001" + "c07100".repeat(cars));
            due("car(-1, 0) of " + cars, x.car(-1, 0), UNKNOWN);
            for (int car = 0; car < cars; car++) {
                due("car(" + car + ", 0) of " + cars, x.car(car, 0), 7);
            }
            due("car behind the last of " + cars, x.car(cars, 0), UNKNOWN);
            due("car behind the last of " + cars + ", wrong number", x.car(cars, 6), UNKNOWN);
        }
    }

    private static void promise8FirstAndLastNumber() {
        EXPECT.part("promise 8: what from 0 to 5, and the first and the last post of a car");
        ChargePosts x = Expect.built("F001p1p1p1p1" + SIX_CARS);
        due("car(5, -1)", x.car(5, -1), BAD);
        due("car(5, 0)", x.car(5, 0), 50);
        due("car(5, 5) at no post", x.car(5, 5), NONE);
        due("car(5, 6)", x.car(5, 6), BAD);
        x.plug(3, 5);
        x.plug(0, 0);
        due("car(5, 5) at the last post", x.car(5, 5), 3);
        due("car(0, 5) at the first post", x.car(0, 5), 0);
        x.pull(3);
        due("car(5, 5) at no post any more", x.car(5, 5), NONE);
    }
}
