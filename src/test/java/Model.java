import java.math.BigInteger;
import java.util.ArrayDeque;
import java.util.ArrayList;
import java.util.Comparator;
import java.util.Deque;
import java.util.List;
import java.util.function.Predicate;
import java.util.regex.Matcher;
import java.util.regex.Pattern;

/**
 * A second program of the document, slow and plain, to compare ChargePosts with: posts and cars are
 * objects, states are deep copies, fractions are exact, and shares go through all orders one by one.
 */
final class Model {
    private static final int UNKNOWN = -1, BAD = -2, LATE = -3, FULL = -4, NONE = -9;
    private static final Pattern SHAPE =
            Pattern.compile("F[0-9]{2}[1-9](?:p[1-9]|c(?:0[1-9]|[1-9][0-9])[1-9][0-9][0-2])*");

    static final class Car {
        int number, need, maximum, rank, kind, rest;

        Car copy() {
            Car c = new Car();
            c.number = number;
            c.need = need;
            c.maximum = maximum;
            c.rank = rank;
            c.kind = kind;
            c.rest = rest;
            return c;
        }
    }

    static final class Post {
        int number, amps, state, stage, silence, age, excess, meter, sign, given;
        Car car;

        Post copy(List<Car> cars) {
            Post p = new Post();
            p.number = number;
            p.amps = amps;
            p.state = state;
            p.stage = stage;
            p.silence = silence;
            p.age = age;
            p.excess = excess;
            p.meter = meter;
            p.sign = sign;
            p.car = car == null ? null : cars.get(car.number);
            return p;
        }

        boolean live() {
            return state == 1 || state == 2 || state == 3;
        }

        void forget() {
            stage = 0;
            silence = 0;
            age = 0;
            excess = 0;
        }
    }

    static final class World {
        final List<Post> posts = new ArrayList<>();
        final List<Car> cars = new ArrayList<>();
        int limit, minute;
        int patience = 1;

        World copy() {
            World w = new World();
            for (Car c : cars) {
                w.cars.add(c.copy());
            }
            for (Post p : posts) {
                w.posts.add(p.copy(w.cars));
            }
            w.limit = limit;
            w.minute = minute;
            w.patience = patience;
            return w;
        }

        Post at(int post) {
            return post >= 0 && post < posts.size() ? posts.get(post) : null;
        }

        Car carOf(int car) {
            return car >= 0 && car < cars.size() ? cars.get(car) : null;
        }

        int postOf(Car c) {
            return posts.stream().filter(p -> p.car == c).map(p -> p.number).findFirst().orElse(NONE);
        }

        List<Post> order(Predicate<Post> belongs) {
            List<Post> on = new ArrayList<>(posts);
            on.removeIf(p -> p.state != 3 || !belongs.test(p));
            on.sort(Comparator.<Post>comparingInt(p -> -p.car.rank).thenComparingInt(p -> -p.car.rest)
                    .thenComparingInt(p -> p.number));
            return on;
        }

        void minute(Predicate<Post> silent, Predicate<Post> belongs) {
            for (Post p : posts) {
                if (p.live() && p.car.kind != 2 && silent.test(p)) {
                    p.silence++;
                    if (p.silence > patience) {
                        p.state = 4;
                    }
                }
            }
            for (Post p : posts) {
                if (p.state == 1) {
                    p.age++;
                    p.state = p.car.kind == 2 && p.age >= 2 ? 2 : 1;
                } else if (p.state == 2) {
                    p.state = p.car.rest > 0 ? 3 : 2;
                } else if (p.state == 3) {
                    p.state = p.car.rest == 0 ? 2 : 3;
                }
            }
            share(belongs);
            for (Post p : posts) {
                if (p.given >= 1) {
                    draw(p);
                }
            }
            minute++;
        }

        private void share(Predicate<Post> belongs) {
            for (Post p : posts) {
                p.given = 0;
            }
            int left = limit;
            for (Post p : order(belongs)) {
                if (left > 0) {
                    p.given++;
                    left--;
                }
            }
            for (Post p : order(belongs)) {
                int top = Math.min(Math.min(p.car.maximum, p.amps), p.car.rest);
                if (p.car.kind == 2) {
                    top = Math.min(top, 2);
                }
                while (left > 0 && p.given < top) {
                    p.given++;
                    left--;
                }
            }
        }

        private void draw(Post p) {
            int drawn = p.given;
            if (p.car.kind == 1) {
                drawn++;
                p.excess++;
            }
            p.car.rest = p.car.rest < drawn ? 0 : p.car.rest - drawn;
            p.meter += drawn;
            p.sign = Math.floorMod(31 * p.sign + 7 * drawn + p.number + 1, 9973);
            if (p.excess == 2) {
                p.state = 4;
                p.excess = 0;
            }
        }

        void minutes(int n, boolean talk) {
            for (int i = 0; i < n; i++) {
                minute(p -> !talk, p -> true);
            }
        }

        int meters() {
            return posts.stream().mapToInt(p -> p.meter).sum();
        }

        int ask(Post p, int what) {
            int[] all = {p.amps, p.car == null ? NONE : p.car.number, p.state, p.stage, p.silence, p.age,
                p.excess, p.meter, p.sign, p.state == 3 ? order(q -> true).indexOf(p) : NONE};
            return all[what];
        }

        int actMinute(int n) {
            if (n < 1 || n > 99) {
                return BAD;
            }
            minutes(n, false);
            return meters();
        }

        int actPlug(int post, int car) {
            Post p = at(post);
            Car c = carOf(car);
            if (p == null || c == null) {
                return UNKNOWN;
            }
            if (p.car != null || postOf(c) != NONE) {
                return LATE;
            }
            p.car = c;
            p.state = 1;
            p.forget();
            return (int) posts.stream().filter(q -> q.car != null).count();
        }

        int actPull(int post) {
            Post p = at(post);
            if (p == null) {
                return UNKNOWN;
            }
            if (p.car == null) {
                return LATE;
            }
            int car = p.car.number;
            p.car = null;
            p.state = 0;
            p.forget();
            return car;
        }

        int actSay(int post, int letter) {
            Post p = at(post);
            if (p == null) {
                return UNKNOWN;
            }
            if (letter < 0 || letter > 5) {
                return BAD;
            }
            if (!p.live() || p.car.kind == 2) {
                return LATE;
            }
            p.silence = 0;
            if (letter == 5) {
                p.state = 1;
                p.stage = 0;
                p.age = 0;
            } else if (letter < 4) {
                boolean right = p.state == 1 && p.stage == letter;
                p.stage += right ? 1 : 0;
                p.state = right ? (letter == 3 ? 2 : 1) : 4;
            }
            return p.state;
        }

        int actReset(int post) {
            Post p = at(post);
            if (p == null) {
                return UNKNOWN;
            }
            if (p.state != 4) {
                return LATE;
            }
            p.state = 1;
            p.forget();
            return (int) posts.stream().filter(q -> q.state == 4).count();
        }

        int actLimit(int v) {
            if (v < 0 || v > 99) {
                return BAD;
            }
            int before = limit;
            limit = v;
            return before;
        }
    }

    private final StringBuilder text = new StringBuilder();
    private World world = new World();
    private final Deque<World> past = new ArrayDeque<>();
    private final World[] slots = new World[2];
    private final List<int[]> seen = new ArrayList<>();
    private long start;

    int write(int letter) {
        if (letter < 0 || letter > 255) {
            return BAD;
        }
        if (text.length() == 70) {
            return FULL;
        }
        text.append((char) letter);
        return text.length();
    }

    int wipe() {
        int n = text.length();
        text.setLength(0);
        return n;
    }

    /** Could something be written behind the beginning so that it describes a site? */
    private static boolean hopeful(String beginning) {
        Matcher m = SHAPE.matcher(beginning);
        boolean fits = m.matches() || m.hitEnd();
        return fits && beginning.chars().filter(b -> b == 'p').count() <= 4
                && beginning.chars().filter(b -> b == 'c').count() <= 6;
    }

    int fault() {
        for (int n = 1; n <= text.length(); n++) {
            if (!hopeful(text.substring(0, n))) {
                return n - 1;
            }
        }
        return SHAPE.matcher(text).matches() ? NONE : text.length();
    }

    int site() {
        if (fault() != NONE) {
            return LATE;
        }
        world = new World();
        world.limit = Integer.parseInt(text.substring(1, 3));
        world.patience = text.charAt(3) - '0';
        Matcher m = Pattern.compile("p(.)|c(..)(.)(.)(.)").matcher(text);
        while (m.find()) {
            if (m.group(1) != null) {
                Post p = new Post();
                p.number = world.posts.size();
                p.amps = Integer.parseInt(m.group(1));
                world.posts.add(p);
            } else {
                Car c = new Car();
                c.number = world.cars.size();
                c.need = Integer.parseInt(m.group(2));
                c.maximum = Integer.parseInt(m.group(3));
                c.rank = Integer.parseInt(m.group(4));
                c.kind = Integer.parseInt(m.group(5));
                c.rest = c.need;
                world.cars.add(c);
            }
        }
        past.clear();
        slots[0] = null;
        slots[1] = null;
        return world.posts.size();
    }

    private int set(int state) {
        return world.posts.stream().filter(p -> p.state == state).mapToInt(p -> 1 << p.number).sum();
    }

    int about(int what) {
        if (what < 0 || what > 11) {
            return BAD;
        }
        int[] all = {world.posts.size(), world.cars.size(), world.limit, world.patience, world.minute, set(3),
            set(4), world.meters(), world.cars.stream().mapToInt(c -> c.rest).sum(), past.size(), seen.size(),
            text.length()};
        return all[what];
    }

    int post(int post, int what) {
        Post p = world.at(post);
        if (p == null) {
            return UNKNOWN;
        }
        return what < 0 || what > 9 ? BAD : world.ask(p, what);
    }

    int car(int car, int what) {
        Car c = world.carOf(car);
        if (c == null) {
            return UNKNOWN;
        }
        if (what < 0 || what > 5) {
            return BAD;
        }
        int[] all = {c.need, c.maximum, c.rank, c.kind, c.rest, world.postOf(c)};
        return all[what];
    }

    private int settle(World before, int answer) {
        if (answer >= 0) {
            past.addLast(before);
            if (past.size() > 14) {
                past.removeFirst();
            }
        }
        return answer;
    }

    int minute(int n) {
        World before = world.copy();
        return settle(before, world.actMinute(n));
    }

    int plug(int post, int car) {
        World before = world.copy();
        return settle(before, world.actPlug(post, car));
    }

    int pull(int post) {
        World before = world.copy();
        return settle(before, world.actPull(post));
    }

    int say(int post, int letter) {
        World before = world.copy();
        return settle(before, world.actSay(post, letter));
    }

    int reset(int post) {
        World before = world.copy();
        return settle(before, world.actReset(post));
    }

    int limit(int v) {
        World before = world.copy();
        return settle(before, world.actLimit(v));
    }

    int undo() {
        if (past.isEmpty()) {
            return LATE;
        }
        world = past.removeLast();
        return past.size();
    }

    int ahead(int n, boolean talk, int post, int what) {
        if (world.at(post) == null) {
            return UNKNOWN;
        }
        if (n < 0 || n > 99 || what < 1 || what > 9) {
            return BAD;
        }
        World w = world.copy();
        w.minutes(n, talk);
        return w.ask(w.at(post), what);
    }

    int done(int car) {
        if (world.carOf(car) == null) {
            return UNKNOWN;
        }
        World w = world.copy();
        for (int n = 0; n < 100; n++) {
            if (w.carOf(car).rest == 0) {
                return n;
            }
            w.minutes(1, true);
        }
        return NONE;
    }

    int least(int n) {
        if (n < 0 || n > 40) {
            return BAD;
        }
        for (int limit = 0; limit < 100; limit++) {
            World w = world.copy();
            w.limit = limit;
            w.minutes(n, true);
            if (w.posts.stream().allMatch(p -> p.car == null || p.car.rest == 0)) {
                return limit;
            }
        }
        return NONE;
    }

    private static int sign(int post, int n, int row) {
        int sign = 0;
        for (char c : String.format("%0" + n + "d", row).toCharArray()) {
            sign = c == '0' ? sign : (31 * sign + 7 * (c - '0') + post + 1) % 9973;
        }
        return sign;
    }

    int signed(int post, int n, int row) {
        if (world.at(post) == null) {
            return UNKNOWN;
        }
        if (n < 1 || n > 6 || row < 0 || Integer.toString(row).length() > n) {
            return BAD;
        }
        return sign(post, n, row);
    }

    int forged(int post, int n, int s) {
        if (world.at(post) == null) {
            return UNKNOWN;
        }
        if (n < 1 || n > 3 || s < 0 || s > 9972) {
            return BAD;
        }
        for (int row = 0; Integer.toString(row).length() <= n; row++) {
            if (sign(post, n, row) == s) {
                return row;
            }
        }
        return NONE;
    }

    int judge(int n, int row) {
        if (n < 1 || n > 3 || row < 0 || Integer.toString(row).length() > 3 * n) {
            return BAD;
        }
        String digits = String.format("%0" + 3 * n + "d", row);
        World w = world.copy();
        for (int i = 0; i < n; i++) {
            int c = digits.charAt(3 * i) - '0';
            int u = digits.charAt(3 * i + 1) - '0';
            int v = digits.charAt(3 * i + 2) - '0';
            boolean right = false;
            if (c == 1) {
                right = w.actMinute(10 * u + v) >= 0;
            } else if (c == 2) {
                right = w.actPlug(u, v) >= 0;
            } else if (c == 3) {
                right = u == 0 && w.actPull(v) >= 0;
            } else if (c == 4) {
                right = w.actSay(u, v) >= 0;
            } else if (c == 5) {
                right = u == 0 && w.actReset(v) >= 0;
            } else if (c == 6) {
                right = w.at(u) != null && w.at(u).state == v;
            } else if (c == 7) {
                right = w.carOf(u) != null && w.carOf(u).rest <= v;
            } else if (c == 8) {
                right = w.actLimit(10 * u + v) >= 0;
            }
            if (!right) {
                return i;
            }
        }
        return NONE;
    }

    int see(int post, int n, int v) {
        if (world.at(post) == null) {
            return UNKNOWN;
        }
        if (n < 0 || n > 20 || v < 0 || v > 999) {
            return BAD;
        }
        if (seen.size() == 6) {
            return FULL;
        }
        seen.add(new int[] {post, n, v});
        return seen.size();
    }

    int unsee() {
        int n = seen.size();
        seen.clear();
        return n;
    }

    int which() {
        int set = 0;
        for (Car suspect : world.cars) {
            boolean may = true;
            for (int[] o : seen) {
                World w = world.copy();
                w.carOf(suspect.number).kind = 1;
                w.minutes(o[1], true);
                may &= w.at(o[0]) == null || w.at(o[0]).meter == o[2];
            }
            set += may ? 1 << suspect.number : 0;
        }
        return set;
    }

    private int worth(List<Integer> members) {
        World w = world.copy();
        for (int i = 0; i < 20; i++) {
            w.minute(p -> false, p -> members.contains(p.number));
        }
        return w.meters();
    }

    /** Adds up the increases of all orders that begin with these posts; answers how many orders there are. */
    private int orders(List<Integer> begun, int post, long[] sum) {
        if (begun.size() == world.posts.size()) {
            int at = begun.indexOf(post);
            sum[0] += worth(begun.subList(0, at + 1)) - worth(begun.subList(0, at));
            return 1;
        }
        int count = 0;
        for (int next = 0; next < world.posts.size(); next++) {
            if (!begun.contains(next)) {
                List<Integer> longer = new ArrayList<>(begun);
                longer.add(next);
                count += orders(longer, post, sum);
            }
        }
        return count;
    }

    private static int part(long over, long under, boolean upper) {
        BigInteger a = BigInteger.valueOf(over);
        BigInteger b = BigInteger.valueOf(under);
        return (upper ? a : b).divide(a.gcd(b)).intValueExact();
    }

    int share(int post, boolean upper) {
        if (world.at(post) == null) {
            return UNKNOWN;
        }
        long[] sum = new long[1];
        int count = orders(new ArrayList<>(), post, sum);
        return part(sum[0], count, upper);
    }

    private long calm(int n, int x, int decided, List<Boolean> silent) {
        if (decided == world.posts.size()) {
            World w = world.copy();
            for (int i = 0; i < n; i++) {
                w.minute(p -> silent.get(p.number), p -> true);
            }
            return w.posts.stream().noneMatch(p -> p.state == 4) ? 1 : 0;
        }
        List<Boolean> lost = new ArrayList<>(silent);
        lost.add(true);
        List<Boolean> heard = new ArrayList<>(silent);
        heard.add(false);
        return x * calm(n, x, decided + 1, lost) + (10 - x) * calm(n, x, decided + 1, heard);
    }

    int chance(int n, int x, boolean upper) {
        if (n < 1 || n > 9 || x < 0 || x > 10) {
            return BAD;
        }
        long under = BigInteger.TEN.pow(world.posts.size()).longValueExact();
        return part(calm(n, x, 0, new ArrayList<>()), under, upper);
    }

    long seed(long v) {
        long before = start;
        start = v;
        return before;
    }

    int drawn(int m) {
        if (m < 1 || m > 20) {
            return BAD;
        }
        World w = world.copy();
        int sum = 0;
        for (int i = 0; i < m; i++) {
            start = start * 6364136223846793005L + 1442695040888963407L;
            int v = (int) (start >>> 33);
            if (v / 4 % 7 == 6) {
                w.minutes(1, false);
            } else {
                w.actSay(v % 4, v / 4 % 7);
            }
            sum += w.meters();
        }
        return sum;
    }

    int keep(int slot) {
        if (slot < 0 || slot > 1) {
            return UNKNOWN;
        }
        slots[slot] = world.copy();
        return world.minute;
    }

    int again(int slot) {
        if (slot < 0 || slot > 1) {
            return UNKNOWN;
        }
        if (slots[slot] == null) {
            return LATE;
        }
        world = slots[slot].copy();
        past.clear();
        return world.minute;
    }
}
