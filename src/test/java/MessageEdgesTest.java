/** The boundary cases of "Messages" and of promise 12. */
final class MessageEdgesTest {
    private static final Expect EXPECT = new Expect("edges of the messages");
    private static final int UNKNOWN = -1, BAD = -2, LATE = -3;
    private static final int STATE = 2, STAGE = 3, SILENCE = 4, AGE = 5, EXCESS = 6;

    // A row for each of: plugged in the stages 0 to 3, ready, on; a column for each message.
    private static final int[][] STATES = {
        {1, 4, 4, 4, 1, 1}, {4, 1, 4, 4, 1, 1}, {4, 4, 1, 4, 1, 1}, {4, 4, 4, 2, 1, 1},
        {4, 4, 4, 4, 2, 1}, {4, 4, 4, 4, 3, 1}};
    private static final int[][] STAGES = {
        {1, 0, 0, 0, 0, 0}, {1, 2, 1, 1, 1, 0}, {2, 2, 3, 2, 2, 0}, {3, 3, 3, 4, 3, 0},
        {4, 4, 4, 4, 4, 0}, {4, 4, 4, 4, 4, 0}};
    private static final int READY_ROW = 4, ON_ROW = 5;

    public static void main(String[] args) {
        promise12EachMessageInEachStage();
        promise12FirstAndLastMessage();
        promise12FirstAndLastPost();
        promise12FreePost();
        promise12DeadPost();
        promise12MuteCarInEachState();
        promise12SilenceAtThePatience();
        promise12EndBeginsTheStagesAgain();
        promise12AliveChangesNothingElse();
        EXPECT.finish();
    }

    private static void due(String call, long got, long want) {
        EXPECT.due(call, got, want);
    }

    /** A liar's post in the row's state, with the age 1, the silence 1, and when it is on, the excess 1. */
    private static ChargePosts inRow(int row) {
        ChargePosts x = Expect.built("F099p9c99901");
        x.plug(0, 0);
        x.minute(1);
        for (int message = 0; message < Math.min(row, 4); message++) {
            x.say(0, message);
        }
        if (row < READY_ROW) {
            x.say(0, 4);
        }
        if (row == ON_ROW) {
            x.minute(1);
        }
        return x;
    }

    private static void promise12EachMessageInEachStage() {
        EXPECT.part("promise 12: each message in each state and stage");
        for (int row = 0; row < STATES.length; row++) {
            for (int message = 0; message < 6; message++) {
                ChargePosts x = inRow(row);
                int excess = row == ON_ROW ? 1 : 0;
                String of = " of row " + row + ", message " + message;
                due("state before" + of, x.post(0, STATE), row < READY_ROW ? 1 : row == READY_ROW ? 2 : 3);
                due("stage before" + of, x.post(0, STAGE), Math.min(row, 4));
                due("say()" + of, x.say(0, message), STATES[row][message]);
                due("state" + of, x.post(0, STATE), STATES[row][message]);
                due("stage" + of, x.post(0, STAGE), STAGES[row][message]);
                due("silence" + of, x.post(0, SILENCE), 0);
                due("age" + of, x.post(0, AGE), message == 5 ? 0 : 1);
                due("excess" + of, x.post(0, EXCESS), excess);
                due("car" + of, x.post(0, 1), 0);
                due("meter" + of, x.post(0, 7), excess * 10);
                due("sign" + of, x.post(0, 8), excess * 71);
                due("rest" + of, x.car(0, 4), 99 - excess * 10);
            }
        }
    }

    private static void promise12FirstAndLastMessage() {
        EXPECT.part("promise 12: a message from 0 to 5");
        ChargePosts x = Expect.built("F099p9c99900");
        x.plug(0, 0);
        due("say(0, -1)", x.say(0, -1), BAD);
        due("say(0, 0)", x.say(0, 0), 1);
        due("say(0, 5)", x.say(0, 5), 1);
        due("say(0, 6)", x.say(0, 6), BAD);
        due("stage", x.post(0, STAGE), 0);
        due("acts", x.about(9), 3);
    }

    private static void promise12FirstAndLastPost() {
        EXPECT.part("promise 12: the first and the last post");
        ChargePosts x = Expect.built("F099p9p9p9p9c99900c99900");
        x.plug(0, 0);
        x.plug(3, 1);
        due("say(-1, 0)", x.say(-1, 0), UNKNOWN);
        due("say(0, 0)", x.say(0, 0), 1);
        due("say(3, 0)", x.say(3, 0), 1);
        due("say(4, 0)", x.say(4, 0), UNKNOWN);
        due("say(-1, -1)", x.say(-1, -1), UNKNOWN);
        due("say(4, 6)", x.say(4, 6), UNKNOWN);
        due("stage of the other", x.post(3, STAGE), 1);
    }

    private static void promise12FreePost() {
        EXPECT.part("promise 12: a post that is not live, as it is free");
        ChargePosts x = Expect.built("F099p9c99900");
        for (int message = 0; message < 6; message++) {
            due("say(0, " + message + ")", x.say(0, message), LATE);
        }
        due("say(0, 6)", x.say(0, 6), BAD);
        due("say(0, -1)", x.say(0, -1), BAD);
        due("acts", x.about(9), 0);
    }

    private static void promise12DeadPost() {
        EXPECT.part("promise 12: a post that is not live, as it is dead");
        ChargePosts x = Expect.built("F091p9c99900");
        x.plug(0, 0);
        x.minute(2);
        for (int message = 0; message < 6; message++) {
            due("say(0, " + message + ")", x.say(0, message), LATE);
        }
        due("say(0, 6)", x.say(0, 6), BAD);
        due("silence, which stays", x.post(0, SILENCE), 2);
        due("state", x.post(0, STATE), 4);
        x.reset(0);
        due("say(0, 0) after reset()", x.say(0, 0), 1);
    }

    private static void promise12MuteCarInEachState() {
        EXPECT.part("promise 12: a mute car, plugged, ready and on");
        for (int minutes = 0; minutes < 4; minutes++) {
            ChargePosts x = Expect.built("F099p9c99902");
            x.plug(0, 0);
            if (minutes > 0) {
                x.minute(minutes);
            }
            int state = minutes < 2 ? 1 : minutes;
            for (int message = 0; message < 6; message++) {
                due("say(0, " + message + ") after " + minutes, x.say(0, message), LATE);
            }
            due("say(0, 6) after " + minutes, x.say(0, 6), BAD);
            due("state after " + minutes, x.post(0, STATE), state);
            due("stage after " + minutes, x.post(0, STAGE), 0);
        }
    }

    private static void promise12SilenceAtThePatience() {
        EXPECT.part("promise 12: the silence becomes 0, also in the last minute before death");
        for (int message = 4; message < 6; message++) {
            ChargePosts x = Expect.built("F992p9c99900");
            x.plug(0, 0);
            x.minute(2);
            due("silence before message " + message, x.post(0, SILENCE), 2);
            due("message " + message, x.say(0, message), 1);
            due("silence", x.post(0, SILENCE), 0);
            x.minute(2);
            due("state, 2 minutes later", x.post(0, STATE), 1);
            x.minute(1);
            due("state, 3 minutes later", x.post(0, STATE), 4);
        }
        ChargePosts y = Expect.built("F992p9c99900");
        y.plug(0, 0);
        y.minute(2);
        due("a message that kills", y.say(0, 3), 4);
        due("its silence", y.post(0, SILENCE), 0);
        y.minute(5);
        due("its silence, 5 minutes later", y.post(0, SILENCE), 0);
    }

    private static void promise12EndBeginsTheStagesAgain() {
        EXPECT.part("promise 12: after the end, message 0 is the next one");
        ChargePosts x = inRow(ON_ROW);
        due("say(0, 5)", x.say(0, 5), 1);
        for (int message = 0; message < 3; message++) {
            due("say(0, " + message + ")", x.say(0, message), 1);
        }
        due("say(0, 3)", x.say(0, 3), 2);
        due("say(0, 5) when ready", x.say(0, 5), 1);
        due("say(0, 1) too early", x.say(0, 1), 4);
        due("stage", x.post(0, STAGE), 0);
    }

    private static void promise12AliveChangesNothingElse() {
        EXPECT.part("promise 12: 4 changes nothing else, and is an act when it changes nothing at all");
        ChargePosts x = Expect.built("F099p9c99900");
        x.plug(0, 0);
        for (int i = 1; i <= 3; i++) {
            due("say(0, 4)", x.say(0, 4), 1);
            due("acts", x.about(9), 1 + i);
        }
        for (int what = STAGE; what <= EXCESS; what++) {
            due("post(0, " + what + ")", x.post(0, what), 0);
        }
    }
}
