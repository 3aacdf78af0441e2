import java.util.Random;

/** Long runs of calls on a ChargePosts and on a Model, which must answer the same. */
final class ModelTest {
    private static final Expect EXPECT = new Expect("runs against the model");
    private static final int RUNS = 300, CALLS = 500;

    private final Random random;
    private final ChargePosts x = new ChargePosts();
    private final Model m = new Model();

    private ModelTest(int run) {
        random = new Random(run);
    }

    public static void main(String[] args) {
        for (int run = 0; run < RUNS; run++) {
            EXPECT.part("run " + run);
            new ModelTest(run).go();
        }
        EXPECT.finish();
    }

    private void go() {
        boolean built = random.nextInt(8) > 0;
        int used = built ? rebuild(goodText()) : 0;
        if (built) {
            used += plugAll();
        }
        while (used < CALLS) {
            used += step();
        }
    }

    private int to(int bound) {
        return random.nextInt(bound);
    }

    /** Mostly right, sometimes just outside or far away. */
    private int near(int least, int most) {
        int kind = to(40);
        if (kind == 0) {
            return least - 1;
        }
        if (kind == 1) {
            return most + 1;
        }
        if (kind == 2) {
            return random.nextInt();
        }
        if (kind == 3) {
            return least;
        }
        return kind == 4 ? most : least + to(most - least + 1);
    }

    private int aPost() {
        return near(0, 3);
    }

    private int aCar() {
        return near(0, 5);
    }

    private void same(String call, long got, long want) {
        EXPECT.due(call, got, want);
    }

    // ---- texts

    private String carPart() {
        int need = to(3) == 0 ? 1 + to(99) : 1 + to(30);
        return String.format("c%02d%d%d%d", need, 1 + to(9), to(2) == 0 ? to(3) : to(10), to(5) < 3 ? 0 : to(3));
    }

    private String goodText() {
        int posts = to(6) == 0 ? to(5) : 2 + to(3);
        int cars = to(6) == 0 ? to(7) : 2 + to(5);
        StringBuilder s = new StringBuilder(String.format("F%02d%d", to(2) == 0 ? to(12) : to(100), 1 + to(9)));
        while (posts + cars > 0) {
            if (to(posts + cars) < posts) {
                s.append('p').append(1 + to(9));
                posts--;
            } else {
                s.append(carPart());
                cars--;
            }
        }
        return s.toString();
    }

    private String spoilt(String text) {
        StringBuilder s = new StringBuilder(text);
        int kind = to(5);
        if (kind == 0) {
            s.setLength(to(s.length() + 1));
        } else if (kind == 1) {
            s.setCharAt(to(s.length()), (char) ('0' + to(10)));
        } else if (kind == 2) {
            s.setCharAt(to(s.length()), (char) to(256));
        } else if (kind == 3) {
            s.insert(to(s.length() + 1), to(2) == 0 ? "p" + to(10) : carPart());
        } else {
            while (s.length() < 70) {
                s.append(to(2) == 0 ? "p" + (1 + to(9)) : carPart());
            }
        }
        return s.toString();
    }

    private int writeBoth(String text) {
        same("wipe()", x.wipe(), m.wipe());
        for (int i = 0; i < text.length(); i++) {
            same("write(" + (int) text.charAt(i) + ")", x.write(text.charAt(i)), m.write(text.charAt(i)));
        }
        same("fault() of " + text, x.fault(), m.fault());
        return text.length() + 2;
    }

    private int rebuild(String text) {
        int used = writeBoth(text);
        same("site() of " + text, x.site(), m.site());
        return used + 1;
    }

    // ---- sessions

    private int plugAll() {
        int used = 0;
        for (int post = 0; post < 4; post++) {
            int car = to(6);
            same("plug(" + post + ", " + car + ")", x.plug(post, car), m.plug(post, car));
            used += 1 + (to(3) > 0 ? greet(post) : 0);
        }
        return used;
    }

    private int greet(int post) {
        for (int letter = 0; letter < 4; letter++) {
            same("say(" + post + ", " + letter + ")", x.say(post, letter), m.say(post, letter));
        }
        return 4;
    }

    private int compareAll() {
        for (int what = 0; what < 12; what++) {
            same("about(" + what + ")", x.about(what), m.about(what));
        }
        for (int post = 0; post < 4; post++) {
            for (int what = 0; what < 10; what++) {
                same("post(" + post + ", " + what + ")", x.post(post, what), m.post(post, what));
            }
        }
        for (int car = 0; car < 6; car++) {
            for (int what = 0; what < 6; what++) {
                same("car(" + car + ", " + what + ")", x.car(car, what), m.car(car, what));
            }
        }
        return 88;
    }

    // ---- single calls

    private int step() {
        int kind = to(100);
        if (kind == 0) {
            return rebuild(to(3) == 0 ? spoilt(goodText()) : goodText()) + plugAll();
        }
        if (kind == 1) {
            return writeBoth(spoilt(goodText()));
        }
        if (kind == 2) {
            return compareAll();
        }
        if (kind < 8) {
            return greet(to(4));
        }
        if (kind < 50) {
            act(to(14));
        } else if (kind < 76) {
            ask(to(8));
        } else if (kind < 93) {
            compute(to(9));
        } else {
            other(to(8));
        }
        return 1;
    }

    private void act(int kind) {
        int post = aPost();
        int car = aCar();
        int letter = near(0, 5);
        int n = to(3) == 0 ? near(1, 99) : near(1, 3);
        int v = to(2) == 0 ? near(0, 99) : near(0, 12);
        switch (kind) {
            case 0, 1, 2 -> same("minute(" + n + ")", x.minute(n), m.minute(n));
            case 3, 4 -> same("plug(" + post + ", " + car + ")", x.plug(post, car), m.plug(post, car));
            case 5 -> same("pull(" + post + ")", x.pull(post), m.pull(post));
            case 6 -> same("say(" + post + ", " + letter + ")", x.say(post, letter), m.say(post, letter));
            case 7, 8, 9 -> same("say(" + post + ", 4)", x.say(post, 4), m.say(post, 4));
            case 10 -> same("reset(" + post + ")", x.reset(post), m.reset(post));
            case 11 -> same("limit(" + v + ")", x.limit(v), m.limit(v));
            default -> same("undo()", x.undo(), m.undo());
        }
    }

    private void ask(int kind) {
        int post = aPost();
        int car = aCar();
        int what = near(0, 9);
        int n = near(0, 99);
        boolean talk = to(2) == 0;
        switch (kind) {
            case 0 -> same("about(" + what + ")", x.about(what), m.about(what));
            case 1 -> same("post(" + post + ", " + what + ")", x.post(post, what), m.post(post, what));
            case 2 -> same("car(" + car + ", " + what + ")", x.car(car, what), m.car(car, what));
            case 3 -> same("ahead(" + n + ", " + talk + ", " + post + ", " + what + ")",
                    x.ahead(n, talk, post, what), m.ahead(n, talk, post, what));
            case 4 -> ask3(near(0, 5), talk, post, near(1, 9));
            case 5 -> same("done(" + car + ")", x.done(car), m.done(car));
            case 6 -> leastOf(to(2) == 0 ? near(0, 40) : 5 + to(15));
            default -> judgeOf();
        }
    }

    private void ask3(int n, boolean talk, int post, int what) {
        same("ahead(" + n + ", " + talk + ", " + post + ", " + what + ")",
                x.ahead(n, talk, post, what), m.ahead(n, talk, post, what));
    }

    private void leastOf(int n) {
        same("least(" + n + ")", x.least(n), m.least(n));
    }

    private void judgeOf() {
        int n = near(1, 3);
        int row = 0;
        for (int i = 0; i < Math.min(Math.max(n, 1), 3); i++) {
            int c = to(10);
            int u = c == 3 || c == 5 ? to(5) / 4 : to(c == 1 ? 2 : 5);
            row = row * 1000 + 100 * c + 10 * u + to(c == 7 ? 10 : 6);
        }
        row = to(20) == 0 ? near(0, 999999999) : row;
        same("judge(" + n + ", " + row + ")", x.judge(n, row), m.judge(n, row));
    }

    private void compute(int kind) {
        int post = aPost();
        boolean upper = to(2) == 0;
        int n = near(1, 3);
        switch (kind) {
            case 0 -> signedOf(post, near(1, 6));
            case 1 -> forgedOf(post, n);
            case 2, 3, 4 -> seeOf(post, near(0, 20));
            case 5 -> same("which()", x.which(), m.which());
            case 6 -> same("share(" + post + ", " + upper + ")", x.share(post, upper), m.share(post, upper));
            case 7 -> chanceOf(near(1, 9), near(0, 10), upper);
            default -> drawnOf(near(1, 20));
        }
    }

    private void signedOf(int post, int n) {
        int row = near(0, (int) Math.pow(10, Math.min(Math.max(n, 1), 6)) - 1);
        same("signed(" + post + ", " + n + ", " + row + ")", x.signed(post, n, row), m.signed(post, n, row));
    }

    private void forgedOf(int post, int n) {
        int s = near(0, 9972);
        if (to(2) == 0) {
            s = m.signed(post, 3, to(1000));
        }
        same("forged(" + post + ", " + n + ", " + s + ")", x.forged(post, n, s), m.forged(post, n, s));
    }

    private void seeOf(int post, int n) {
        int now = m.ahead(n, true, post, 7);
        int v = to(10) == 0 ? near(0, 999) : Math.max(now, 0) + (to(3) == 0 ? to(5) : 0);
        same("see(" + post + ", " + n + ", " + v + ")", x.see(post, n, v), m.see(post, n, v));
        same("which()", x.which(), m.which());
        if (to(4) == 0) {
            same("unsee()", x.unsee(), m.unsee());
        }
    }

    private void chanceOf(int n, int tenths, boolean upper) {
        same("chance(" + n + ", " + tenths + ", " + upper + ")",
                x.chance(n, tenths, upper), m.chance(n, tenths, upper));
    }

    private void drawnOf(int steps) {
        same("drawn(" + steps + ")", x.drawn(steps), m.drawn(steps));
    }

    private void other(int kind) {
        int slot = near(0, 1);
        long v = random.nextLong();
        int letter = near(0, 255);
        switch (kind) {
            case 0 -> same("seed(" + v + ")", x.seed(v), m.seed(v));
            case 1, 2 -> same("keep(" + slot + ")", x.keep(slot), m.keep(slot));
            case 3, 4 -> same("again(" + slot + ")", x.again(slot), m.again(slot));
            case 5 -> same("write(" + letter + ")", x.write(letter), m.write(letter));
            case 6 -> same("fault()", x.fault(), m.fault());
            default -> same("unsee()", x.unsee(), m.unsee());
        }
    }
}
