import java.util.ArrayList;
import java.util.List;

/** Asks an object for everything that it holds, line by line; the object is used up by it (369 calls). */
final class Look {
    private final ChargePosts x;
    private final List<String> lines = new ArrayList<>();

    private Look(ChargePosts x) {
        this.x = x;
    }

    static List<String> through(ChargePosts x) {
        Look look = new Look(x);
        look.state("now");
        look.put("now", "fault()", x.fault());
        look.put("now", "which()", x.which());
        look.put("now", "seed(0)", x.seed(0));
        look.put("now", "unsee()", x.unsee());
        for (int i = 1; i <= 15; i++) {
            look.put("undo " + i, "undo()", x.undo());
            look.brief("undo " + i);
        }
        for (int slot = 0; slot < 2; slot++) {
            look.put("slot", "again(" + slot + ")", x.again(slot));
            look.brief("slot " + slot);
        }
        look.put("the text's site", "site()", x.site());
        look.state("the text's site");
        look.put("the end", "wipe()", x.wipe());
        return look.lines;
    }

    private void put(String when, String call, long answer) {
        lines.add(when + ": " + call + " = " + answer);
    }

    private void state(String when) {
        for (int what = 0; what < 12; what++) {
            put(when, "about(" + what + ")", x.about(what));
        }
        for (int post = 0; post < 4; post++) {
            for (int what = 0; what < 10; what++) {
                put(when, "post(" + post + ", " + what + ")", x.post(post, what));
            }
        }
        for (int car = 0; car < 6; car++) {
            for (int what = 0; what < 6; what++) {
                put(when, "car(" + car + ", " + what + ")", x.car(car, what));
            }
        }
    }

    private void brief(String when) {
        for (int what : new int[] {2, 4, 5, 6, 7, 8}) {
            put(when, "about(" + what + ")", x.about(what));
        }
        for (int post = 0; post < 4; post++) {
            put(when, "post(" + post + ", 3)", x.post(post, 3));
        }
    }
}
