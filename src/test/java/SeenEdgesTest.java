/** The boundary cases of promises 22 to 24. */
final class SeenEdgesTest {
    private static final Expect EXPECT = new Expect("edges of what is seen");
    private static final int UNKNOWN = -1, BAD = -2, FULL = -4;
    private static final String SIX = "c99100c99100c99100c99100c99100c99100";
    private static final int ALL = 63;

    public static void main(String[] args) {
        promise22FirstAndLastPost();
        promise22LeastAndGreatest();
        promise22TheSixthAndTheSeventh();
        promise23EmptyAndFull();
        promise24NothingSeen();
        promise24NowAndAfter20Minutes();
        promise24FirstAndLastCar();
        promise24EachOfSixObservationsCounts();
        promise24CarsAtNoPost();
        promise24APostWithoutACar();
        promise24PostsThatAreGone();
        promise24AMuteOneThatIsPlugged();
        promise24AMuteOneThatIsReady();
        promise24ExcessFromNowOn();
        promise24WithCommunication();
        EXPECT.finish();
    }

    private static void due(String call, long got, long want) {
        EXPECT.due(call, got, want);
    }

    private static ChargePosts four() {
        return Expect.built("F991p9p9p9p9" + SIX);
    }

    private static void promise22FirstAndLastPost() {
        EXPECT.part("promise 22: the first and the last post");
        ChargePosts x = four();
        due("see(-1, 0, 0)", x.see(-1, 0, 0), UNKNOWN);
        due("see(0, 0, 0)", x.see(0, 0, 0), 1);
        due("see(3, 0, 0)", x.see(3, 0, 0), 2);
        due("see(4, 0, 0)", x.see(4, 0, 0), UNKNOWN);
        due("see(4, 21, 1000)", x.see(4, 21, 1000), UNKNOWN);
        due("see(0, 0, 0) without posts", new ChargePosts().see(0, 0, 0), UNKNOWN);
    }

    private static void promise22LeastAndGreatest() {
        EXPECT.part("promise 22: 0 to 20 minutes and meters from 0 to 999");
        ChargePosts x = four();
        due("see(0, -1, 0)", x.see(0, -1, 0), BAD);
        due("see(0, 0, -1)", x.see(0, 0, -1), BAD);
        due("see(0, 0, 0)", x.see(0, 0, 0), 1);
        due("see(0, 20, 999)", x.see(0, 20, 999), 2);
        due("see(0, 21, 999)", x.see(0, 21, 999), BAD);
        due("see(0, 20, 1000)", x.see(0, 20, 1000), BAD);
        due("observations", x.about(10), 2);
    }

    private static void promise22TheSixthAndTheSeventh() {
        EXPECT.part("promise 22: 6 observations");
        ChargePosts x = four();
        for (int round = 0; round < 2; round++) {
            for (int n = 1; n <= 6; n++) {
                due("observation " + n, x.see(0, 0, 0), n);
                due("about(10)", x.about(10), n);
            }
            due("observation 7", x.see(0, 0, 0), FULL);
            due("observation 7, n out of range", x.see(0, 21, 0), BAD);
            due("observation 7, v out of range", x.see(0, 0, 1000), BAD);
            due("observation 7, no such post", x.see(4, 0, 0), UNKNOWN);
            due("about(10)", x.about(10), 6);
            due("unsee()", x.unsee(), 6);
        }
    }

    private static void promise23EmptyAndFull() {
        EXPECT.part("promise 23: how many there were, from 0 to 6");
        for (int n = 0; n <= 7; n++) {
            ChargePosts x = four();
            for (int i = 0; i < n; i++) {
                x.see(0, 0, 999);
            }
            due("which() of " + n + " that are false", x.which(), n == 0 ? ALL : 0);
            due("unsee() of " + n, x.unsee(), Math.min(n, 6));
            due("unsee() of none", x.unsee(), 0);
            due("about(10)", x.about(10), 0);
            due("which() of none", x.which(), ALL);
            due("see() after it", x.see(0, 0, 0), 1);
        }
    }

    private static void promise24NothingSeen() {
        EXPECT.part("promise 24: no observations, and no cars");
        for (int cars = 0; cars <= 6; cars++) {
            ChargePosts x = Expect.built("F991p9" + SIX.substring(0, 6 * cars));
            due("which() of " + cars + " cars", x.which(), (1 << cars) - 1);
        }
        due("which() of a new object", new ChargePosts().which(), 0);
    }

    private static int whichBy(ChargePosts x, int post, int n, int v) {
        x.unsee();
        x.see(post, n, v);
        return x.which();
    }

    private static void promise24NowAndAfter20Minutes() {
        EXPECT.part("promise 24: observations of now and of 20 minutes later");
        ChargePosts x = Expect.ready("F991p9c99100");
        due("now, true", whichBy(x, 0, 0, 0), 1);
        due("now, false", whichBy(x, 0, 0, 1), 0);
        due("1 minute later, a liar's", whichBy(x, 0, 1, 2), 1);
        due("1 minute later, a plain one's", whichBy(x, 0, 1, 1), 0);
        due("2 minutes later", whichBy(x, 0, 2, 4), 1);
        due("dead 20 minutes later", whichBy(x, 0, 20, 4), 1);
        due("plain 20 minutes later", whichBy(x, 0, 20, 20), 0);
        ChargePosts y = Expect.ready("F991p9c99100c01900");
        due("another one lies: 18 minutes", whichBy(y, 0, 18, 18), 2);
        due("another one lies: 19 minutes", whichBy(y, 0, 19, 19), 2);
        due("another one lies: 20 minutes", whichBy(y, 0, 20, 20), 2);
        due("another one lies: one too few", whichBy(y, 0, 20, 19), 0);
        due("another one lies: one too many", whichBy(y, 0, 20, 21), 0);
        y.minute(1);
        due("now, from the present state on", whichBy(y, 0, 0, 1), 3);
        due("20 minutes from the present state on", whichBy(y, 0, 20, 21), 2);
    }

    private static void promise24FirstAndLastCar() {
        EXPECT.part("promise 24: the bits of car 0 and car 5");
        ChargePosts x = four();
        x.plug(3, 5);
        x.plug(0, 0);
        Expect.greet(x, 3);
        Expect.greet(x, 0);
        due("car 5 is honest", whichBy(x, 3, 1, 1), ALL - 32);
        due("car 5 is not", whichBy(x, 3, 1, 2), 32);
        due("car 0 is honest", whichBy(x, 0, 1, 1), ALL - 1);
        due("car 0 is not", whichBy(x, 0, 1, 2), 1);
        x.see(3, 1, 1);
        due("and car 5 is honest", x.which(), 1);
        x.see(3, 1, 2);
        due("nobody explains all", x.which(), 0);
    }

    private static void promise24EachOfSixObservationsCounts() {
        EXPECT.part("promise 24: all observations are true, the first one and the sixth one, too");
        for (int wrong = 0; wrong < 6; wrong++) {
            ChargePosts x = four();
            for (int i = 0; i < 6; i++) {
                due("see() " + i, x.see(i % 4, 4 * i, i == wrong ? 1 : 0), i + 1);
            }
            due("which(), as observation " + wrong + " is false", x.which(), 0);
        }
        ChargePosts y = four();
        for (int i = 0; i < 6; i++) {
            y.see(i % 4, 4 * i, 0);
        }
        due("which(), as all six are true", y.which(), ALL);
    }

    private static void promise24CarsAtNoPost() {
        EXPECT.part("promise 24: a car at no post belongs to the result if the others explain all");
        ChargePosts x = Expect.ready("F991p9c99100c99101c99102");
        due("a plain one's meter", whichBy(x, 0, 1, 1), 6);
        due("a liar's meter", whichBy(x, 0, 1, 2), 1);
        due("nobody's meter", whichBy(x, 0, 1, 3), 0);
    }

    private static void promise24APostWithoutACar() {
        EXPECT.part("promise 24: a post without a car keeps its meter");
        ChargePosts x = Expect.ready("F999p9p9c99100");
        x.minute(2);
        x.pull(0);
        due("now", whichBy(x, 0, 0, 2), 1);
        due("20 minutes later", whichBy(x, 0, 20, 2), 1);
        due("another meter", whichBy(x, 0, 20, 3), 0);
        due("a post that was never used", whichBy(x, 1, 20, 0), 1);
    }

    private static void promise24PostsThatAreGone() {
        EXPECT.part("promise 24: observations of posts that do not exist any more are ignored");
        ChargePosts x = four();
        x.see(3, 0, 1);
        due("four posts", x.which(), 0);
        String[] texts = {"F991p9p9p9c99100", "F991p9c99100", "F991c99100", "F991p9p9p9p9c99100"};
        int[] want = {1, 1, 1, 0};
        for (int i = 0; i < texts.length; i++) {
            x.wipe();
            Expect.write(x, texts[i]);
            x.site();
            due("which() of " + texts[i], x.which(), want[i]);
            due("observations", x.about(10), 1);
        }
        x.wipe();
        Expect.write(x, "F991p9p9p9c99100");
        x.site();
        x.see(2, 0, 1);
        due("the last post that exists is not ignored", x.which(), 0);
    }

    private static void promise24AMuteOneThatIsPlugged() {
        EXPECT.part("promise 24: as a liar it is not mute, and does not get ready by its age");
        ChargePosts x = Expect.built("F991p9c99902c99900");
        x.plug(0, 0);
        x.minute(1);
        due("mute: 2 in minute 2", whichBy(x, 0, 2, 2), 2);
        due("plugged: nothing in minute 2", whichBy(x, 0, 2, 0), 1);
        due("plugged: nothing in minute 20", whichBy(x, 0, 20, 0), 1);
        due("mute: 38 in minute 20", whichBy(x, 0, 20, 38), 2);
    }

    private static void promise24AMuteOneThatIsReady() {
        EXPECT.part("promise 24: as a liar it is not mute, and may be given more than 2");
        ChargePosts x = Expect.built("F991p9c99902c99900");
        x.plug(0, 0);
        x.minute(2);
        due("mute: 2", whichBy(x, 0, 1, 2), 2);
        due("a liar: 9 and 1", whichBy(x, 0, 1, 10), 1);
        due("mute: nothing is 3", whichBy(x, 0, 1, 3), 0);
        due("a liar dies of it", whichBy(x, 0, 20, 20), 1);
    }

    private static void promise24ExcessFromNowOn() {
        EXPECT.part("promise 24: the excess of 1 that a liar has now counts");
        ChargePosts x = Expect.ready("F999p9p9c99101c99100");
        x.minute(1);
        due("the liar draws 2 once more, whoever lies", whichBy(x, 0, 20, 4), 3);
        due("the other draws 20 more, if it is honest", whichBy(x, 1, 20, 21), 1);
        due("the other draws 4 more, if it lies", whichBy(x, 1, 20, 5), 2);
        due("of 4 minutes", whichBy(x, 0, 4, 4), 3);
        due("of none", whichBy(x, 0, 0, 2), 3);
    }

    private static void promise24WithCommunication() {
        EXPECT.part("promise 24: with communication, also from the patience on");
        ChargePosts x = Expect.ready("F991p9c99100c99100");
        x.minute(1);
        due("on for 20 minutes more", whichBy(x, 0, 20, 21), 2);
        x.minute(1);
        due("dead now", whichBy(x, 0, 20, 1), 3);
    }
}
