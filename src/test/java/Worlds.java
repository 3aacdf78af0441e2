/** Objects in which most things have happened, for calls that must leave them as they are. */
final class Worlds {
    private Worlds() {
    }

    /**
     * Minute 3: post 0 is on with the plain car 0, post 1 is dead with the liar 1, post 2 is on with the mute
     * car 2, and post 3 is free; cars 3 to 5 are at no post. 14 acts can be undone, slot 0 is saved in minute
     * 1 and slot 1 is not, there are 2 observations, and the start number is 77.
     */
    static ChargePosts busy() {
        ChargePosts x = Expect.built("F203p9p5p3p4c40910c12411c30952c09900c09901c09902");
        for (int post = 0; post < 3; post++) {
            x.plug(post, post);
        }
        Expect.greet(x, 0);
        Expect.greet(x, 1);
        x.minute(1);
        x.keep(0);
        x.minute(1);
        x.say(0, 4);
        x.minute(1);
        x.limit(9);
        x.see(0, 1, 34);
        x.see(3, 20, 0);
        x.seed(77);
        return x;
    }

    /** The same with a text of 70 bytes, which has a fault, with 6 observations, and with both slots saved. */
    static ChargePosts full() {
        ChargePosts x = busy();
        for (int i = 48; i < 70; i++) {
            x.write('x');
        }
        for (int i = 2; i < 6; i++) {
            x.see(i - 2, 20, 100 * i);
        }
        x.keep(1);
        return x;
    }

    /** One post with a car that is plugged, and one act that can be undone. */
    static ChargePosts small() {
        ChargePosts x = Expect.built("F051p3c10100");
        x.plug(0, 0);
        return x;
    }
}
