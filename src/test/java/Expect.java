import java.util.ArrayList;
import java.util.List;

/** Collects the answers that are not the due ones. */
final class Expect {
    private final List<String> wrong = new ArrayList<>();
    private final String title;
    private String part = "";
    private int asked;

    Expect(String title) {
        this.title = title;
    }

    /** Names the promise that the next answers belong to. */
    void part(String name) {
        part = name;
    }

    void due(String call, long got, long want) {
        asked++;
        if (got != want) {
            wrong.add(part + ": " + call + " answered " + got + ", due is " + want);
        }
    }

    /** Compares two rows of lines and tells the first line in which they differ. */
    void same(String call, List<String> got, List<String> want) {
        asked++;
        for (int i = 0; i < Math.max(got.size(), want.size()); i++) {
            String one = i < got.size() ? got.get(i) : "nothing";
            String other = i < want.size() ? want.get(i) : "nothing";
            if (!one.equals(other)) {
                wrong.add(part + ": " + call + " has " + one + ", due is " + other);
                return;
            }
        }
    }

    /** Prints what was wrong and ends the program with 1 if anything was. */
    void finish() {
        for (String line : wrong) {
            System.out.println(line);
        }
        System.out.println(title + ": " + (asked - wrong.size()) + " of " + asked + " answers are as due");
        if (!wrong.isEmpty()) {
            System.exit(1);
        }
    }

    /** A new object with a text written to it. */
    static ChargePosts written(String text) {
        ChargePosts x = new ChargePosts();
        write(x, text);
        return x;
    }

    static void write(ChargePosts x, String text) {
        for (int i = 0; i < text.length(); i++) {
            x.write(text.charAt(i));
        }
    }

    /** A new object with the site of a text. */
    static ChargePosts built(String text) {
        ChargePosts x = written(text);
        x.site();
        return x;
    }

    /** The site of a text with car k at post k, all ready but for the mute ones. */
    static ChargePosts ready(String text) {
        ChargePosts x = built(text);
        for (int post = 0; post < x.about(0) && post < x.about(1); post++) {
            x.plug(post, post);
            greet(x, post);
        }
        return x;
    }

    /** Says the messages 0 to 3, so that a plugged post becomes ready. */
    static void greet(ChargePosts x, int post) {
        for (int message = 0; message < 4; message++) {
            x.say(post, message);
        }
    }
}
