import java.util.List;
import java.util.function.Supplier;

/**
 * The errors of all promises: each of them is answered, the one that the method names first comes first, and
 * a refused call changes nothing, which a second object without the call shows. Also the calls that only ask.
 */
final class RefusedTest {
    private static final Expect EXPECT = new Expect("refused calls");
    private static final int UNKNOWN = -1, BAD = -2, LATE = -3, FULL = -4;
    private static final int LEAST = Integer.MIN_VALUE, MOST = Integer.MAX_VALUE;

    private interface Call {
        long on(ChargePosts x);
    }

    public static void main(String[] args) {
        theWorlds();
        promise2Write();
        promise5Site();
        promise6About();
        promise7Post();
        promise8Car();
        promise9Minute();
        promise10PlugUnknown();
        promise10PlugLate();
        promise11Pull();
        promise12SayUnknown();
        promise12SayBadAndLate();
        promise13Reset();
        promise14Limit();
        promise15Undo();
        promise16Ahead();
        promise17Done();
        promise18Least();
        promise19Signed();
        promise20Forged();
        promise21Judge();
        promise22See();
        promise25Share();
        promise26Chance();
        promise28Drawn();
        promise29Keep();
        promise30Again();
        onlyAsked();
        EXPECT.finish();
    }

    /** A call that answers this and leaves everything as it is in another object of the same making. */
    private static void leaves(Supplier<ChargePosts> world, String name, Call call, long want) {
        ChargePosts x = world.get();
        EXPECT.due(name, call.on(x), want);
        EXPECT.same("what comes after " + name, Look.through(x), Look.through(world.get()));
    }

    private static void refused(String name, Call call, int want) {
        leaves(Worlds::busy, name, call, want);
    }

    private static void refusedFull(String name, Call call, int want) {
        leaves(Worlds::full, name + ", full", call, want);
    }

    private static void refusedSmall(String name, Call call, int want) {
        leaves(Worlds::small, name + ", with one post and one car", call, want);
    }

    private static void refusedNew(String name, Call call, int want) {
        leaves(ChargePosts::new, name + " on a new object", call, want);
    }

    /** What is compared is not empty: the two worlds differ, and so do the objects after an act. */
    private static void theWorlds() {
        EXPECT.part("the test itself");
        List<String> busy = Look.through(Worlds.busy());
        EXPECT.due("lines", busy.size(), 369);
        EXPECT.due("another world is seen", busy.equals(Look.through(Worlds.full())) ? 1 : 0, 0);
        Call[] changes = {
            x -> x.write(0), x -> x.wipe(), x -> x.site(), x -> x.minute(1), x -> x.plug(3, 3), x -> x.pull(0),
            x -> x.say(0, 4), x -> x.reset(1), x -> x.limit(9), x -> x.undo(), x -> x.see(0, 0, 0),
            x -> x.unsee(), x -> x.seed(1), x -> x.drawn(1), x -> x.keep(0), x -> x.keep(1), x -> x.again(0)};
        for (int i = 0; i < changes.length; i++) {
            ChargePosts x = Worlds.busy();
            EXPECT.due("change " + i + " is no error", changes[i].on(x) >= 0 ? 1 : 0, 1);
            EXPECT.due("change " + i + " is seen", busy.equals(Look.through(x)) ? 1 : 0, 0);
        }
    }

    private static void promise2Write() {
        EXPECT.part("promise 2, BAD then FULL");
        for (int letter : new int[] {LEAST, -256, -1, 256, 257, MOST}) {
            refused("write(" + letter + ")", x -> x.write(letter), BAD);
            refusedFull("write(" + letter + ")", x -> x.write(letter), BAD);
        }
        for (int letter : new int[] {0, 'p', 255}) {
            refusedFull("write(" + letter + ")", x -> x.write(letter), FULL);
        }
    }

    private static void promise5Site() {
        EXPECT.part("promise 5, LATE");
        refusedFull("site() of a text with a fault", x -> x.site(), LATE);
        refusedNew("site() of an empty text", x -> x.site(), LATE);
    }

    private static void promise6About() {
        EXPECT.part("promise 6, BAD");
        for (int what : new int[] {LEAST, -1, 12, MOST}) {
            refused("about(" + what + ")", x -> x.about(what), BAD);
            refusedNew("about(" + what + ")", x -> x.about(what), BAD);
        }
    }

    private static void promise7Post() {
        EXPECT.part("promise 7, UNKNOWN then BAD");
        for (int what : new int[] {LEAST, -1, 0, 9, 10, MOST}) {
            for (int post : new int[] {LEAST, -1, 4, MOST}) {
                refused("post(" + post + ", " + what + ")", x -> x.post(post, what), UNKNOWN);
            }
            refusedSmall("post(1, " + what + ")", x -> x.post(1, what), UNKNOWN);
            refusedNew("post(0, " + what + ")", x -> x.post(0, what), UNKNOWN);
        }
        for (int what : new int[] {LEAST, -1, 10, MOST}) {
            refused("post(0, " + what + ")", x -> x.post(0, what), BAD);
            refused("post(3, " + what + ")", x -> x.post(3, what), BAD);
        }
    }

    private static void promise8Car() {
        EXPECT.part("promise 8, UNKNOWN then BAD");
        for (int what : new int[] {LEAST, -1, 0, 5, 6, MOST}) {
            for (int car : new int[] {LEAST, -9, -1, 6, MOST}) {
                refused("car(" + car + ", " + what + ")", x -> x.car(car, what), UNKNOWN);
            }
            refusedSmall("car(1, " + what + ")", x -> x.car(1, what), UNKNOWN);
            refusedNew("car(0, " + what + ")", x -> x.car(0, what), UNKNOWN);
        }
        for (int what : new int[] {LEAST, -1, 6, MOST}) {
            refused("car(0, " + what + ")", x -> x.car(0, what), BAD);
            refused("car(5, " + what + ")", x -> x.car(5, what), BAD);
        }
    }

    private static void promise9Minute() {
        EXPECT.part("promise 9, BAD");
        for (int n : new int[] {LEAST, -1, 0, 100, MOST}) {
            refused("minute(" + n + ")", x -> x.minute(n), BAD);
            refusedNew("minute(" + n + ")", x -> x.minute(n), BAD);
        }
    }

    private static void promise10PlugUnknown() {
        EXPECT.part("promise 10, UNKNOWN then LATE");
        for (int post : new int[] {LEAST, -1, 4, MOST}) {
            refused("plug(" + post + ", 3)", x -> x.plug(post, 3), UNKNOWN);
            refused("plug(" + post + ", 0) of a car at a post", x -> x.plug(post, 0), UNKNOWN);
            refused("plug(" + post + ", 6)", x -> x.plug(post, 6), UNKNOWN);
        }
        for (int car : new int[] {LEAST, -9, -1, 6, MOST}) {
            refused("plug(3, " + car + ")", x -> x.plug(3, car), UNKNOWN);
            refused("plug(0, " + car + ") where a car is", x -> x.plug(0, car), UNKNOWN);
        }
        refusedSmall("plug(1, 0)", x -> x.plug(1, 0), UNKNOWN);
        refusedSmall("plug(0, 1)", x -> x.plug(0, 1), UNKNOWN);
        refusedNew("plug(0, 0)", x -> x.plug(0, 0), UNKNOWN);
    }

    private static void promise10PlugLate() {
        EXPECT.part("promise 10, LATE");
        refused("plug(0, 3) at a post that is on", x -> x.plug(0, 3), LATE);
        refused("plug(1, 3) at a dead post", x -> x.plug(1, 3), LATE);
        refused("plug(3, 0) of a car at a post", x -> x.plug(3, 0), LATE);
        refused("plug(3, 1) of a dead post's car", x -> x.plug(3, 1), LATE);
        refused("plug(0, 0) of the car that is there", x -> x.plug(0, 0), LATE);
        refused("plug(0, 1) where both is so", x -> x.plug(0, 1), LATE);
        refusedSmall("plug(0, 0) at a plugged post", x -> x.plug(0, 0), LATE);
    }

    private static void promise11Pull() {
        EXPECT.part("promise 11, UNKNOWN then LATE");
        for (int post : new int[] {LEAST, -1, 4, MOST}) {
            refused("pull(" + post + ")", x -> x.pull(post), UNKNOWN);
        }
        refusedSmall("pull(1)", x -> x.pull(1), UNKNOWN);
        refusedNew("pull(0)", x -> x.pull(0), UNKNOWN);
        refused("pull(3) of a free post", x -> x.pull(3), LATE);
    }

    private static void promise12SayUnknown() {
        EXPECT.part("promise 12, UNKNOWN then BAD");
        for (int letter : new int[] {LEAST, -1, 0, 5, 6, MOST}) {
            for (int post : new int[] {LEAST, -1, 4, MOST}) {
                refused("say(" + post + ", " + letter + ")", x -> x.say(post, letter), UNKNOWN);
            }
            refusedSmall("say(1, " + letter + ")", x -> x.say(1, letter), UNKNOWN);
            refusedNew("say(0, " + letter + ")", x -> x.say(0, letter), UNKNOWN);
        }
    }

    private static void promise12SayBadAndLate() {
        EXPECT.part("promise 12, BAD then LATE");
        for (int letter : new int[] {LEAST, -1, 6, MOST}) {
            for (int post = 0; post < 4; post++) {
                int to = post;
                refused("say(" + to + ", " + letter + ")", x -> x.say(to, letter), BAD);
            }
        }
        for (int letter = 0; letter < 6; letter++) {
            int said = letter;
            refused("say(1, " + said + ") to a dead post", x -> x.say(1, said), LATE);
            refused("say(2, " + said + ") to a mute car", x -> x.say(2, said), LATE);
            refused("say(3, " + said + ") to a free post", x -> x.say(3, said), LATE);
        }
    }

    private static void promise13Reset() {
        EXPECT.part("promise 13, UNKNOWN then LATE");
        for (int post : new int[] {LEAST, -1, 4, MOST}) {
            refused("reset(" + post + ")", x -> x.reset(post), UNKNOWN);
        }
        refusedSmall("reset(1)", x -> x.reset(1), UNKNOWN);
        refusedNew("reset(0)", x -> x.reset(0), UNKNOWN);
        refused("reset(0) of a post that is on", x -> x.reset(0), LATE);
        refused("reset(3) of a free post", x -> x.reset(3), LATE);
        refusedSmall("reset(0) of a plugged post", x -> x.reset(0), LATE);
    }

    private static void promise14Limit() {
        EXPECT.part("promise 14, BAD");
        for (int v : new int[] {LEAST, -1, 100, MOST}) {
            refused("limit(" + v + ")", x -> x.limit(v), BAD);
            refusedNew("limit(" + v + ")", x -> x.limit(v), BAD);
        }
    }

    private static void promise15Undo() {
        EXPECT.part("promise 15, LATE");
        refusedNew("undo()", x -> x.undo(), LATE);
        leaves(() -> Expect.built("F051p3c10100"), "undo() of a new site", x -> x.undo(), LATE);
    }

    private static void promise16Ahead() {
        EXPECT.part("promise 16, UNKNOWN then BAD");
        for (int post : new int[] {LEAST, -1, 4, MOST}) {
            refused("ahead(1, true, " + post + ", 1)", x -> x.ahead(1, true, post, 1), UNKNOWN);
            refused("ahead(100, true, " + post + ", 1)", x -> x.ahead(100, true, post, 1), UNKNOWN);
            refused("ahead(-1, false, " + post + ", 10)", x -> x.ahead(-1, false, post, 10), UNKNOWN);
        }
        refusedSmall("ahead(0, true, 1, 1)", x -> x.ahead(0, true, 1, 1), UNKNOWN);
        for (int n : new int[] {LEAST, -1, 100, MOST}) {
            refused("ahead(" + n + ", true, 0, 1)", x -> x.ahead(n, true, 0, 1), BAD);
            refused("ahead(" + n + ", false, 3, 1), NONE else", x -> x.ahead(n, false, 3, 1), BAD);
            refused("ahead(" + n + ", true, 0, 0)", x -> x.ahead(n, true, 0, 0), BAD);
        }
        for (int what : new int[] {LEAST, -1, 0, 10, MOST}) {
            refused("ahead(1, true, 0, " + what + ")", x -> x.ahead(1, true, 0, what), BAD);
            refused("ahead(99, false, 3, " + what + ")", x -> x.ahead(99, false, 3, what), BAD);
        }
    }

    private static void promise17Done() {
        EXPECT.part("promise 17, UNKNOWN then NONE");
        for (int car : new int[] {LEAST, -9, -1, 6, MOST}) {
            refused("done(" + car + ")", x -> x.done(car), UNKNOWN);
        }
        refusedSmall("done(1)", x -> x.done(1), UNKNOWN);
        refusedNew("done(0)", x -> x.done(0), UNKNOWN);
        refused("done(5), a car at no post", x -> x.done(5), -9);
    }

    private static void promise18Least() {
        EXPECT.part("promise 18, BAD then NONE");
        for (int n : new int[] {LEAST, -1, 41, MOST}) {
            refused("least(" + n + ")", x -> x.least(n), BAD);
            refusedNew("least(" + n + ")", x -> x.least(n), BAD);
        }
        refused("least(40)", x -> x.least(40), -9);
    }

    private static void promise19Signed() {
        EXPECT.part("promise 19, UNKNOWN then BAD");
        for (int post : new int[] {LEAST, -1, 4, MOST}) {
            refused("signed(" + post + ", 1, 1)", x -> x.signed(post, 1, 1), UNKNOWN);
            refused("signed(" + post + ", 0, 10)", x -> x.signed(post, 0, 10), UNKNOWN);
            refused("signed(" + post + ", 7, -1)", x -> x.signed(post, 7, -1), UNKNOWN);
        }
        refusedSmall("signed(1, 1, 1)", x -> x.signed(1, 1, 1), UNKNOWN);
        for (int n : new int[] {LEAST, -1, 0, 7, 10, MOST}) {
            for (int row : new int[] {LEAST, -1, 0, 1, MOST}) {
                refused("signed(0, " + n + ", " + row + ")", x -> x.signed(0, n, row), BAD);
            }
        }
        int over = 1;
        for (int n = 1; n <= 6; n++) {
            int draws = n;
            over *= 10;
            for (int row : new int[] {LEAST, -1, over, MOST}) {
                refused("signed(3, " + n + ", " + row + ")", x -> x.signed(3, draws, row), BAD);
            }
        }
    }

    private static void promise20Forged() {
        EXPECT.part("promise 20, UNKNOWN then BAD then NONE");
        for (int post : new int[] {LEAST, -1, 4, MOST}) {
            refused("forged(" + post + ", 1, 0)", x -> x.forged(post, 1, 0), UNKNOWN);
            refused("forged(" + post + ", 0, -1)", x -> x.forged(post, 0, -1), UNKNOWN);
            refused("forged(" + post + ", 4, 9973)", x -> x.forged(post, 4, 9973), UNKNOWN);
        }
        refusedSmall("forged(1, 1, 0)", x -> x.forged(1, 1, 0), UNKNOWN);
        for (int n : new int[] {LEAST, -1, 0, 4, 10, MOST}) {
            for (int s : new int[] {-1, 0, 1, 9972, 9973}) {
                refused("forged(0, " + n + ", " + s + ")", x -> x.forged(0, n, s), BAD);
            }
        }
        for (int n = 1; n <= 3; n++) {
            int draws = n;
            for (int s : new int[] {LEAST, -1, 9973, MOST}) {
                refused("forged(3, " + n + ", " + s + ")", x -> x.forged(3, draws, s), BAD);
            }
        }
        refused("forged(0, 1, 9972)", x -> x.forged(0, 1, 9972), -9);
    }

    private static void promise21Judge() {
        EXPECT.part("promise 21, BAD");
        for (int n : new int[] {LEAST, -1, 0, 4, 10, MOST}) {
            for (int row : new int[] {LEAST, -1, 0, 602, 999, MOST}) {
                refused("judge(" + n + ", " + row + ")", x -> x.judge(n, row), BAD);
            }
        }
        int over = 1;
        for (int n = 1; n <= 3; n++) {
            int things = n;
            over *= 1000;
            for (int row : new int[] {LEAST, -1, over, MOST}) {
                refused("judge(" + n + ", " + row + ")", x -> x.judge(things, row), BAD);
            }
        }
    }

    private static void promise22See() {
        EXPECT.part("promise 22, UNKNOWN then BAD then FULL");
        for (int post : new int[] {LEAST, -1, 4, MOST}) {
            refused("see(" + post + ", 0, 0)", x -> x.see(post, 0, 0), UNKNOWN);
            refused("see(" + post + ", 21, 1000)", x -> x.see(post, 21, 1000), UNKNOWN);
            refusedFull("see(" + post + ", 0, 0)", x -> x.see(post, 0, 0), UNKNOWN);
            refusedFull("see(" + post + ", -1, -1)", x -> x.see(post, -1, -1), UNKNOWN);
        }
        refusedSmall("see(1, 0, 0)", x -> x.see(1, 0, 0), UNKNOWN);
        for (int n : new int[] {LEAST, -1, 21, MOST}) {
            refused("see(0, " + n + ", 0)", x -> x.see(0, n, 0), BAD);
            refusedFull("see(0, " + n + ", 0)", x -> x.see(0, n, 0), BAD);
        }
        for (int v : new int[] {LEAST, -1, 1000, MOST}) {
            refused("see(3, 20, " + v + ")", x -> x.see(3, 20, v), BAD);
            refusedFull("see(3, 20, " + v + ")", x -> x.see(3, 20, v), BAD);
        }
        refusedFull("see(0, 0, 0)", x -> x.see(0, 0, 0), FULL);
        refusedFull("see(3, 20, 999)", x -> x.see(3, 20, 999), FULL);
    }

    private static void promise25Share() {
        EXPECT.part("promise 25, UNKNOWN");
        for (int post : new int[] {LEAST, -1, 4, MOST}) {
            refused("share(" + post + ", true)", x -> x.share(post, true), UNKNOWN);
            refused("share(" + post + ", false)", x -> x.share(post, false), UNKNOWN);
        }
        refusedSmall("share(1, true)", x -> x.share(1, true), UNKNOWN);
        refusedNew("share(0, false)", x -> x.share(0, false), UNKNOWN);
    }

    private static void promise26Chance() {
        EXPECT.part("promise 26, BAD");
        for (int n : new int[] {LEAST, -1, 0, 10, MOST}) {
            refused("chance(" + n + ", 5, true)", x -> x.chance(n, 5, true), BAD);
            refused("chance(" + n + ", 11, false)", x -> x.chance(n, 11, false), BAD);
            refusedNew("chance(" + n + ", 0, true)", x -> x.chance(n, 0, true), BAD);
        }
        for (int tenths : new int[] {LEAST, -1, 11, MOST}) {
            refused("chance(1, " + tenths + ", true)", x -> x.chance(1, tenths, true), BAD);
            refused("chance(9, " + tenths + ", false)", x -> x.chance(9, tenths, false), BAD);
            refusedNew("chance(9, " + tenths + ", true)", x -> x.chance(9, tenths, true), BAD);
        }
    }

    private static void promise28Drawn() {
        EXPECT.part("promise 28, BAD");
        for (int m : new int[] {LEAST, -1, 0, 21, MOST}) {
            refused("drawn(" + m + ")", x -> x.drawn(m), BAD);
            refusedNew("drawn(" + m + ")", x -> x.drawn(m), BAD);
        }
    }

    private static void promise29Keep() {
        EXPECT.part("promise 29, UNKNOWN");
        for (int slot : new int[] {LEAST, -1, 2, 32, MOST}) {
            refused("keep(" + slot + ")", x -> x.keep(slot), UNKNOWN);
            refusedFull("keep(" + slot + ")", x -> x.keep(slot), UNKNOWN);
        }
    }

    private static void promise30Again() {
        EXPECT.part("promise 30, UNKNOWN then LATE");
        for (int slot : new int[] {LEAST, -1, 2, 32, MOST}) {
            refused("again(" + slot + ")", x -> x.again(slot), UNKNOWN);
            refusedFull("again(" + slot + ")", x -> x.again(slot), UNKNOWN);
            refusedNew("again(" + slot + ")", x -> x.again(slot), UNKNOWN);
        }
        refused("again(1), where nothing is saved", x -> x.again(1), LATE);
        refusedNew("again(0)", x -> x.again(0), LATE);
        refusedSmall("again(0)", x -> x.again(0), LATE);
    }

    /** Post 0 is given 9, less the mute car's 2, a minute: 13 are left of car 0's need, 28 of car 2's. */
    private static void onlyAsked() {
        EXPECT.part("promises 4, 6 to 8, 16 to 21 and 24 to 26 leave the state");
        refused("fault()", x -> x.fault(), -9);
        refused("about(7)", x -> x.about(7), 27 + 10 + 2);
        refused("post(0, 9)", x -> x.post(0, 9), 1);
        refused("car(2, 4)", x -> x.car(2, 4), 28);
        refused("ahead(1, true, 0, 7)", x -> x.ahead(1, true, 0, 7), 27 + 7);
        refused("ahead(99, false, 2, 7)", x -> x.ahead(99, false, 2, 7), 30);
        refused("done(0)", x -> x.done(0), 2);
        refused("done(2)", x -> x.done(2), 14);
        refused("least(0)", x -> x.least(0), -9);
        refused("signed(0, 6, 999999)", x -> x.signed(0, 6, 999999), signOfSixNines());
        refused("forged(0, 1, 8)", x -> x.forged(0, 1, 8), 1);
        refused("judge(3, 233300850)", x -> x.judge(3, 233300850), -9);
        // Without lies post 0 has 34 in a minute: not if car 0 lies, nor if car 2 does and takes 3, not 2.
        refused("which()", x -> x.which(), 58);
        refused("share(3, true)", x -> x.share(3, true), 0);
        refused("share(3, false)", x -> x.share(3, false), 1);
        refused("chance(9, 0, true)", x -> x.chance(9, 0, true), 0);
        refused("chance(9, 0, false)", x -> x.chance(9, 0, false), 1);
    }

    private static int signOfSixNines() {
        int sign = 0;
        for (int i = 0; i < 6; i++) {
            sign = (31 * sign + 64) % 9973;
        }
        return sign;
    }
}
