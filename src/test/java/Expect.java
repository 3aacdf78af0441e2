import java.util.ArrayList;
import java.util.List;

/** Collects the answers that are not the due ones. */
final class Expect {
    private final List<String> wrong = new ArrayList<>();
    private final String title;
    private String part = "";
    private int asked;

    Expect(String title) {
        this.title = title;
    }

    /** Names the promise that the next answers belong to. */
    void part(String name) {
        part = name;
    }

    void due(String call, long got, long want) {
        asked++;
        if (got != want) {
            wrong.add(part + ": " + call + " answered " + got + ", due is " + want);
        }
    }

    /** Prints what was wrong and ends the program with 1 if anything was. */
    void finish() {
        for (String line : wrong) {
            System.out.println(line);
        }
        System.out.println(title + ": " + (asked - wrong.size()) + " of " + asked + " answers are as due");
        if (!wrong.isEmpty()) {
            System.exit(1);
        }
    }

    /** A new object with a text written to it. */
    static ChargePosts written(String text) {
        ChargePosts x = new ChargePosts();
        write(x, text);
        return x;
    }

    static void write(ChargePosts x, String text) {
        for (int i = 0; i < text.length(); i++) {
            x.write(text.charAt(i));
        }
    }

    /** A new object with the site of a text. */
    static ChargePosts built(String text) {
        ChargePosts x = written(text);
        x.site();
        return x;
    }

    /** Says the messages 0 to 3, so that a plugged post becomes ready. */
    static void greet(ChargePosts x, int post) {
        for (int message = 0; message < 4; message++) {
            x.say(post, message);
        }
    }
}
