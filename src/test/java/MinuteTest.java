/** What happens in a minute, a part of promise 9: silence, states, order, draws, meters and signs. */
final class MinuteTest {
    private static final Expect EXPECT = new Expect("minute");
    private static final int NONE = -9;
    private static final int STATE = 2, SILENCE = 4, AGE = 5, EXCESS = 6, METER = 7, SIGN = 8, INDEX = 9;

    public static void main(String[] args) {
        EXPECT.part("promise 9, part 1");
        silence();
        silenceOfAllLiveStates();
        silenceStops();
        EXPECT.part("promise 9, part 2");
        muteStates();
        plainStates();
        stateByRest();
        EXPECT.part("promise 9, part 3");
        orderByRank();
        orderByRest();
        orderByNumber();
        onlyOnesForAll();
        caps();
        muteCap();
        EXPECT.part("promise 9, part 4");
        liar();
        liarAtTheEnd();
        nothingGiven();
        excessStaysByEnd();
        signs();
        EXPECT.finish();
    }

    private static void due(String call, long got, long want) {
        EXPECT.due(call, got, want);
    }

    private static void meters(ChargePosts x, int... want) {
        for (int post = 0; post < want.length; post++) {
            due("post(" + post + ", 7)", x.post(post, METER), want[post]);
        }
    }

    private static void silence() {
        ChargePosts x = Expect.ready("F992p9c99900");
        x.minute(2);
        due("silence at the patience", x.post(0, SILENCE), 2);
        due("state at the patience", x.post(0, STATE), 3);
        due("meter at the patience", x.post(0, METER), 18);
        x.minute(1);
        due("silence above the patience", x.post(0, SILENCE), 3);
        due("state above the patience", x.post(0, STATE), 4);
        due("meter above the patience", x.post(0, METER), 18);
        due("stage of a dead post", x.post(0, 3), 4);
        due("car of a dead post", x.post(0, 1), 0);
        x.undo();
        x.say(0, 4);
        x.minute(2);
        due("state after alive", x.post(0, STATE), 3);
        due("silence after alive", x.post(0, SILENCE), 2);
        due("meter after alive", x.post(0, METER), 36);
    }

    private static void silenceOfAllLiveStates() {
        ChargePosts x = Expect.built("F001p1p1p1p1c10100c10100c10102c10101");
        x.plug(0, 0);
        x.plug(1, 1);
        Expect.greet(x, 1);
        x.plug(2, 2);
        x.minute(1);
        due("silence of a plugged post", x.post(0, SILENCE), 1);
        due("silence of a post that was ready", x.post(1, SILENCE), 1);
        due("silence of a mute car's post", x.post(2, SILENCE), 0);
        due("silence of a free post", x.post(3, SILENCE), 0);
        x.plug(3, 3);
        x.minute(1);
        due("dead posts", x.about(6), 3);
        due("age of a post that died plugged", x.post(0, AGE), 1);
        x.minute(1);
        due("a liar's post dies of silence, too", x.about(6), 11);
    }

    private static void silenceStops() {
        ChargePosts x = Expect.ready("F991p9c99900");
        x.minute(10);
        due("silence of a dead post", x.post(0, SILENCE), 2);
        due("age of a dead post", x.post(0, AGE), 0);
        due("minute", x.about(4), 10);
    }

    private static void muteStates() {
        ChargePosts x = Expect.built("F991p9c05902");
        x.plug(0, 0);
        int[] states = {1, 2, 3, 3, 3, 2, 2};
        int[] ages = {1, 2, 2, 2, 2, 2, 2};
        int[] meters = {0, 0, 2, 4, 5, 5, 5};
        for (int i = 0; i < states.length; i++) {
            x.minute(1);
            due("mute state in minute " + (i + 1), x.post(0, STATE), states[i]);
            due("mute age in minute " + (i + 1), x.post(0, AGE), ages[i]);
            due("mute meter in minute " + (i + 1), x.post(0, METER), meters[i]);
        }
        x.pull(0);
        due("age after pull()", x.post(0, AGE), 0);
        x.plug(0, 0);
        x.minute(5);
        due("a mute car without a rest stays ready", x.post(0, STATE), 2);
    }

    private static void plainStates() {
        ChargePosts x = Expect.built("F999p9c10900");
        x.plug(0, 0);
        x.minute(3);
        due("a plain car without messages stays plugged", x.post(0, STATE), 1);
        due("its age", x.post(0, AGE), 3);
        Expect.greet(x, 0);
        due("ready by contract", x.post(0, STATE), 2);
        x.minute(1);
        due("on in the next minute", x.post(0, STATE), 3);
        due("age of a post that is not plugged", x.post(0, AGE), 3);
        due("meter", x.post(0, METER), 9);
    }

    private static void stateByRest() {
        ChargePosts x = Expect.ready("F999p9c10900");
        x.minute(2);
        due("on in the minute in which it is charged", x.post(0, STATE), 3);
        due("index then", x.post(0, INDEX), 0);
        x.minute(1);
        due("ready in the minute after", x.post(0, STATE), 2);
        due("index of a ready post", x.post(0, INDEX), NONE);
        x.minute(2);
        due("and stays so", x.post(0, STATE), 2);
        due("meter", x.post(0, METER), 10);
    }

    private static void orderByRank() {
        ChargePosts x = Expect.ready("F059p9p9p9c90910c10930c50920");
        x.minute(1);
        due("index of rank 1", x.post(0, INDEX), 2);
        due("index of rank 3", x.post(1, INDEX), 0);
        due("index of rank 2", x.post(2, INDEX), 1);
        meters(x, 1, 3, 1);
    }

    private static void orderByRest() {
        ChargePosts x = Expect.ready("F059p9p9p9c20930c50930c40930");
        x.minute(1);
        meters(x, 1, 3, 1);
        due("index of the least rest", x.post(0, INDEX), 2);
        due("index of the greatest rest", x.post(1, INDEX), 0);
        due("index of the middle rest", x.post(2, INDEX), 1);
    }

    private static void orderByNumber() {
        ChargePosts x = Expect.ready("F099p9p9p9p9c20930c20930c20930c20930");
        x.minute(1);
        meters(x, 6, 1, 1, 1);
        // The rests are 14, 19, 19, 19 now: post 0 is the last one.
        due("index of post 0", x.post(0, INDEX), 3);
        due("index of post 1", x.post(1, INDEX), 0);
        due("index of post 2", x.post(2, INDEX), 1);
        due("index of post 3", x.post(3, INDEX), 2);
        x.minute(1);
        meters(x, 7, 7, 2, 2);
    }

    private static void onlyOnesForAll() {
        ChargePosts x = Expect.ready("F029p9p9p9c20910c20920c20930");
        x.minute(1);
        meters(x, 0, 1, 1);
        x.limit(3);
        x.minute(1);
        meters(x, 1, 2, 2);
        x.limit(4);
        x.minute(1);
        meters(x, 2, 3, 4);
        x.limit(0);
        x.minute(1);
        meters(x, 2, 3, 4);
        due("all are on, with nothing given", x.about(5), 7);
    }

    private static void caps() {
        ChargePosts x = Expect.ready("F999p7p9p9p1c90900c90400c05900c90900");
        x.minute(1);
        meters(x, 7, 4, 5, 1);
        ChargePosts y = Expect.ready("F109p7p9p9c90930c90420c05910");
        y.minute(1);
        meters(y, 7, 2, 1);
    }

    private static void muteCap() {
        ChargePosts x = Expect.built("F999p9p9p1p9c90902c90102c90902c01902");
        for (int post = 0; post < 4; post++) {
            x.plug(post, post);
        }
        x.minute(3);
        meters(x, 2, 1, 1, 1);
    }

    private static void liar() {
        ChargePosts x = Expect.ready("F999p5c50901");
        x.minute(1);
        due("meter after 1 minute", x.post(0, METER), 6);
        due("rest after 1 minute", x.car(0, 4), 44);
        due("excess after 1 minute", x.post(0, EXCESS), 1);
        due("state after 1 minute", x.post(0, STATE), 3);
        x.minute(1);
        due("meter after 2 minutes", x.post(0, METER), 12);
        due("rest after 2 minutes", x.car(0, 4), 38);
        due("excess after 2 minutes", x.post(0, EXCESS), 0);
        due("state after 2 minutes", x.post(0, STATE), 4);
        x.minute(1);
        due("meter after 3 minutes", x.post(0, METER), 12);
    }

    private static void liarAtTheEnd() {
        ChargePosts x = Expect.ready("F999p5c03901");
        x.minute(1);
        due("meter of a liar with the rest 3", x.post(0, METER), 4);
        due("its rest", x.car(0, 4), 0);
        due("its sign", x.post(0, SIGN), 7 * 4 + 1);
        x.minute(1);
        due("its excess, when it is charged", x.post(0, EXCESS), 1);
        due("its state, when it is charged", x.post(0, STATE), 2);
    }

    private static void nothingGiven() {
        ChargePosts x = Expect.ready("F009p5c50901");
        x.minute(3);
        due("meter", x.post(0, METER), 0);
        due("excess", x.post(0, EXCESS), 0);
        due("sign", x.post(0, SIGN), 0);
        due("state", x.post(0, STATE), 3);
    }

    private static void excessStaysByEnd() {
        ChargePosts x = Expect.ready("F999p5c50901");
        x.minute(1);
        x.say(0, 5);
        due("excess after the message end", x.post(0, EXCESS), 1);
        Expect.greet(x, 0);
        x.minute(1);
        due("dead after the second excess", x.post(0, STATE), 4);
        x.reset(0);
        Expect.greet(x, 0);
        x.minute(1);
        due("excess after reset() and a minute", x.post(0, EXCESS), 1);
        x.pull(0);
        due("excess after pull()", x.post(0, EXCESS), 0);
    }

    private static void signs() {
        ChargePosts x = Expect.ready("F999p3p4p5p6c99910c99920c99930c99940");
        int[] sign = new int[4];
        for (int minute = 1; minute <= 9; minute++) {
            x.minute(1);
            for (int post = 0; post < 4; post++) {
                sign[post] = (31 * sign[post] + 7 * (post + 3) + post + 1) % 9973;
                due("sign " + post + " in minute " + minute, x.post(post, SIGN), sign[post]);
            }
        }
    }
}
