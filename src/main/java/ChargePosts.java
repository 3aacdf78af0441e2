/** Charging posts for electric cars that share one feed. ../shared/DOC.md says what each method promises. */
public final class ChargePosts {
    public static final int UNKNOWN = -1, BAD = -2, LATE = -3, FULL = -4, NONE = -9;

    private static final int MOST_POSTS = 4, MOST_CARS = 6, MOST_BYTES = 70, MOST_UNDOS = 14;
    private static final int MOST_SEEN = 6, MOST_DIGITS = 9, SLOTS = 2;

    // What post() asks of a post, by its numbers; CAR to SIGN are what a state holds of it.
    private static final int AMPS = 0, CAR = 1, STATE = 2, STAGE = 3, SILENCE = 4;
    private static final int AGE = 5, EXCESS = 6, METER = 7, SIGN = 8, INDEX = 9;

    // What car() asks of a car, by its numbers; NEED to KIND are what the site holds of it.
    private static final int NEED = 0, MAXIMUM = 1, RANK = 2, KIND = 3, REST = 4, POST = 5;
    private static final int TRAITS = 4;

    private static final int FREE = 0, PLUGGED = 1, READY = 2, ON = 3, DEAD = 4;
    private static final int LIAR = 1, MUTE = 2;
    private static final int CONTRACT = 3, ALIVE = 4, END = 5;

    // Sets of posts, and no car at all where one is suspected.
    private static final int NO_POST = 0, ALL_POSTS = (1 << MOST_POSTS) - 1, NO_CAR = -1;

    private static final int MOST_GIVEN_TO_MUTE = 2, MUTE_AGE = 2, EXCESS_OF_DEATH = 2, SIGNS = 9973;
    private static final int LAST_DONE = 99, LAST_SEEN = 20, SHARE_MINUTES = 20;

    private final Text text = new Text();
    private final Site site = new Site();
    private final Feed feed = new Feed(site);
    private final State now = new State();
    private final State trial = new State();
    private final History history = new History();
    private final State[] slots = new State[SLOTS];
    private final Observations seen = new Observations();
    private final int[] digits = new int[MOST_DIGITS];
    private int savedSlots;
    private long start;

    public ChargePosts() {
        now.begin(site);
        for (int slot = 0; slot < SLOTS; slot++) {
            slots[slot] = new State();
        }
    }

    // ---- the site

    public int write(int letter) {
        if (letter < 0 || letter > 255) {
            return BAD;
        }
        return text.append(letter) ? text.length : FULL;
    }

    public int wipe() {
        int before = text.length;
        text.length = 0;
        return before;
    }

    public int fault() {
        return text.firstFault();
    }

    public int site() {
        if (text.firstFault() != NONE) {
            return LATE;
        }
        site.build(text);
        now.begin(site);
        history.count = 0;
        savedSlots = 0;
        return site.posts;
    }

    public int about(int what) {
        switch (what) {
            case 0: return site.posts;
            case 1: return site.cars;
            case 2: return now.limit;
            case 3: return site.patience;
            case 4: return now.minute;
            case 5: return now.postsIn(ON);
            case 6: return now.postsIn(DEAD);
            case 7: return now.meters();
            case 8: return now.rests();
            case 9: return history.count;
            case 10: return seen.count;
            case 11: return text.length;
            default: return BAD;
        }
    }

    public int post(int post, int what) {
        if (!site.hasPost(post)) {
            return UNKNOWN;
        }
        if (what < AMPS || what > INDEX) {
            return BAD;
        }
        return what == AMPS ? site.ampsOf(post) : feed.property(now, post, what);
    }

    public int car(int car, int what) {
        if (!site.hasCar(car)) {
            return UNKNOWN;
        }
        if (what < NEED || what > POST) {
            return BAD;
        }
        if (what == REST) {
            return now.restOf(car);
        }
        return what == POST ? now.postOf(car) : site.trait(car, what);
    }

    // ---- acts

    public int minute(int n) {
        trial.take(now);
        return settle(feed.passMinutes(trial, n));
    }

    public int plug(int post, int car) {
        trial.take(now);
        return settle(feed.plugIn(trial, post, car));
    }

    public int pull(int post) {
        trial.take(now);
        return settle(feed.pullOut(trial, post));
    }

    public int say(int post, int letter) {
        trial.take(now);
        return settle(feed.tell(trial, post, letter));
    }

    public int reset(int post) {
        trial.take(now);
        return settle(feed.revive(trial, post));
    }

    public int limit(int v) {
        trial.take(now);
        return settle(feed.changeLimit(trial, v));
    }

    public int undo() {
        return history.restore(now);
    }

    /** The acts have been tried on the trial state; only one that answers no error counts. */
    private int settle(int answer) {
        if (answer >= 0) {
            history.remember(now);
            now.take(trial);
        }
        return answer;
    }

    // ---- asked

    public int ahead(int n, boolean talk, int post, int what) {
        if (!site.hasPost(post)) {
            return UNKNOWN;
        }
        if (n < 0 || n > 99 || what < CAR || what > INDEX) {
            return BAD;
        }
        trial.take(now);
        feed.pass(trial, n, talk ? NO_POST : ALL_POSTS, ALL_POSTS, NO_CAR);
        return feed.property(trial, post, what);
    }

    public int done(int car) {
        if (!site.hasCar(car)) {
            return UNKNOWN;
        }
        trial.take(now);
        for (int n = 0; n <= LAST_DONE; n++) {
            if (trial.restOf(car) == 0) {
                return n;
            }
            feed.pass(trial, 1, NO_POST, ALL_POSTS, NO_CAR);
        }
        return NONE;
    }

    public int least(int n) {
        if (n < 0 || n > 40) {
            return BAD;
        }
        // No post is given more than its amps, so no limit above their sum charges more.
        int enough = site.allAmps();
        for (int limit = 0; limit <= enough; limit++) {
            trial.take(now);
            trial.limit = limit;
            feed.pass(trial, n, NO_POST, ALL_POSTS, NO_CAR);
            if (trial.allCharged()) {
                return limit;
            }
        }
        return NONE;
    }

    public int signed(int post, int n, int row) {
        if (!site.hasPost(post)) {
            return UNKNOWN;
        }
        if (n < 1 || n > 6 || row < 0 || row >= power(10, n)) {
            return BAD;
        }
        return signOfRow(post, n, row);
    }

    public int forged(int post, int n, int s) {
        if (!site.hasPost(post)) {
            return UNKNOWN;
        }
        if (n < 1 || n > 3 || s < 0 || s >= SIGNS) {
            return BAD;
        }
        int rows = power(10, n);
        for (int row = 0; row < rows; row++) {
            if (signOfRow(post, n, row) == s) {
                return row;
            }
        }
        return NONE;
    }

    public int judge(int n, int row) {
        if (n < 1 || n > 3 || row < 0 || row >= power(1000, n)) {
            return BAD;
        }
        spread(row, 3 * n);
        trial.take(now);
        for (int i = 0; i < n; i++) {
            if (!holds(digits[3 * i], digits[3 * i + 1], digits[3 * i + 2])) {
                return i;
            }
        }
        return NONE;
    }

    /** Tries one act or claim of judge() on the trial state. */
    private boolean holds(int c, int u, int v) {
        switch (c) {
            case 1: return feed.passMinutes(trial, 10 * u + v) >= 0;
            case 2: return feed.plugIn(trial, u, v) >= 0;
            case 3: return u == 0 && feed.pullOut(trial, v) >= 0;
            case 4: return feed.tell(trial, u, v) >= 0;
            case 5: return u == 0 && feed.revive(trial, v) >= 0;
            case 6: return site.hasPost(u) && trial.get(u, STATE) == v;
            case 7: return site.hasCar(u) && trial.restOf(u) <= v;
            case 8: return feed.changeLimit(trial, 10 * u + v) >= 0;
            default: return false;
        }
    }

    private int signOfRow(int post, int n, int row) {
        spread(row, n);
        int sign = 0;
        for (int i = 0; i < n && i < MOST_DIGITS; i++) {
            if (digits[i] != 0) {
                sign = nextSign(sign, post, digits[i]);
            }
        }
        return sign;
    }

    /** Puts the last n decimal digits of a row into digits, the most significant one first. */
    private void spread(int row, int n) {
        int left = row;
        for (int i = Math.min(n, MOST_DIGITS) - 1; i >= 0; i--) {
            digits[i] = left % 10;
            left /= 10;
        }
    }

    // ---- seen

    public int see(int post, int n, int v) {
        if (!site.hasPost(post)) {
            return UNKNOWN;
        }
        if (n < 0 || n > LAST_SEEN || v < 0 || v > 999) {
            return BAD;
        }
        return seen.add(post, n, v) ? seen.count : FULL;
    }

    public int unsee() {
        int before = seen.count;
        seen.count = 0;
        return before;
    }

    public int which() {
        int cars = 0;
        for (int car = 0; car < site.cars; car++) {
            if (mayLie(car)) {
                cars |= 1 << car;
            }
        }
        return cars;
    }

    private boolean mayLie(int suspect) {
        trial.take(now);
        for (int n = 0; n <= LAST_SEEN; n++) {
            if (seen.deny(trial, n, site.posts)) {
                return false;
            }
            feed.pass(trial, 1, NO_POST, ALL_POSTS, suspect);
        }
        return true;
    }

    // ---- shares, chances

    public int share(int post, boolean upper) {
        if (!site.hasPost(post)) {
            return UNKNOWN;
        }
        int others = site.posts - 1;
        int sum = 0;
        for (int fed = 0; fed < 1 << site.posts; fed++) {
            // Those that came before the post, without itself, and those that come behind it.
            int earlier = Integer.bitCount(fed & ~(1 << post));
            int orders = factorial(earlier) * factorial(others - earlier);
            sum += has(fed, post) ? orders * worth(fed) : -orders * worth(fed);
        }
        return lowest(sum, factorial(site.posts), upper);
    }

    private int worth(int fed) {
        trial.take(now);
        feed.pass(trial, SHARE_MINUTES, NO_POST, fed, NO_CAR);
        return trial.meters();
    }

    public int chance(int n, int x, boolean upper) {
        if (n < 1 || n > 9 || x < 0 || x > 10) {
            return BAD;
        }
        int sum = 0;
        for (int silent = 0; silent < 1 << site.posts; silent++) {
            trial.take(now);
            feed.pass(trial, n, silent, ALL_POSTS, NO_CAR);
            if (trial.postsIn(DEAD) == NO_POST) {
                int lost = Integer.bitCount(silent);
                sum += power(x, lost) * power(10 - x, site.posts - lost);
            }
        }
        return lowest(sum, power(10, site.posts), upper);
    }

    public long seed(long v) {
        long before = start;
        start = v;
        return before;
    }

    public int drawn(int m) {
        if (m < 1 || m > 20) {
            return BAD;
        }
        trial.take(now);
        int sum = 0;
        for (int step = 0; step < m; step++) {
            start = start * 6364136223846793005L + 1442695040888963407L;
            tryStep((int) (start >>> 33));
            sum += trial.meters();
        }
        return sum;
    }

    private void tryStep(int v) {
        int message = v / 4 % 7;
        if (message > END) {
            feed.pass(trial, 1, ALL_POSTS, ALL_POSTS, NO_CAR);
        } else {
            feed.tell(trial, v % 4, message);
        }
    }

    // ---- slots

    public int keep(int slot) {
        if (slot < 0 || slot >= SLOTS) {
            return UNKNOWN;
        }
        slots[slot].take(now);
        savedSlots |= 1 << slot;
        return now.minute;
    }

    public int again(int slot) {
        if (slot < 0 || slot >= SLOTS) {
            return UNKNOWN;
        }
        if (!has(savedSlots, slot)) {
            return LATE;
        }
        now.take(slots[slot]);
        history.count = 0;
        return now.minute;
    }

    // ---- numbers

    private static boolean has(int set, int k) {
        return (set >> k & 1) == 1;
    }

    private static int nextSign(int sign, int post, int draw) {
        return (31 * sign + 7 * draw + post + 1) % SIGNS;
    }

    private static int power(int base, int n) {
        int product = 1;
        for (int i = 0; i < n; i++) {
            product *= base;
        }
        return product;
    }

    private static int factorial(int n) {
        int product = 1;
        for (int i = 2; i <= n; i++) {
            product *= i;
        }
        return product;
    }

    /** A part of the fraction over / under in lowest terms; under is positive. */
    private static int lowest(int over, int under, boolean upper) {
        int divisor = greatestDivisor(Math.abs(over), under);
        if (divisor == 0) {
            return upper ? over : under;
        }
        return (upper ? over : under) / divisor;
    }

    /** Euclid's way, which takes less than 50 rounds for ints. */
    private static int greatestDivisor(int a, int b) {
        int greater = a;
        int less = b;
        for (int round = 0; round < 50 && less != 0; round++) {
            int left = greater % less;
            greater = less;
            less = left;
        }
        return greater;
    }

    /** The text that describes a site. */
    private static final class Text {
        static final int HEAD = 4, POST_PART = 2, CAR_PART = 6;

        private final int[] bytes = new int[MOST_BYTES];
        int length;

        boolean append(int letter) {
            if (length < 0 || length >= MOST_BYTES) {
                return false;
            }
            bytes[length] = letter;
            length++;
            return true;
        }

        /** The byte at a position, and -1, which is right nowhere, behind the end. */
        int byteAt(int at) {
            return at < 0 || at >= length || at >= MOST_BYTES ? -1 : bytes[at];
        }

        int digitAt(int at) {
            return byteAt(at) - '0';
        }

        private boolean isDigit(int at, int least, int most) {
            int digit = digitAt(at);
            return digit >= least && digit <= most;
        }

        /** As nothing is right behind the end, a text that ends too early has its fault there. */
        int firstFault() {
            int wrong = faultOfHead();
            int posts = 0;
            int cars = 0;
            int at = HEAD;
            for (int parts = 0; parts < MOST_BYTES && wrong == NONE && at < length; parts++) {
                if (byteAt(at) == 'p' && posts < MOST_POSTS) {
                    wrong = isDigit(at + 1, 1, 9) ? NONE : at + 1;
                    posts++;
                    at += POST_PART;
                } else if (byteAt(at) == 'c' && cars < MOST_CARS) {
                    wrong = faultOfCar(at);
                    cars++;
                    at += CAR_PART;
                } else {
                    wrong = at;
                }
            }
            return wrong;
        }

        private int faultOfHead() {
            if (byteAt(0) != 'F') {
                return 0;
            }
            if (!isDigit(1, 0, 9)) {
                return 1;
            }
            if (!isDigit(2, 0, 9)) {
                return 2;
            }
            return isDigit(3, 1, 9) ? NONE : 3;
        }

        private int faultOfCar(int at) {
            if (!isDigit(at + 1, 0, 9)) {
                return at + 1;
            }
            if (!isDigit(at + 2, digitAt(at + 1) == 0 ? 1 : 0, 9)) {
                return at + 2;
            }
            if (!isDigit(at + 3, 1, 9)) {
                return at + 3;
            }
            if (!isDigit(at + 4, 0, 9)) {
                return at + 4;
            }
            return isDigit(at + 5, 0, 2) ? NONE : at + 5;
        }
    }

    /** What acts do not change: the amps of the posts, the cars, the patience, and the limit at first. */
    private static final class Site {
        private final int[] amps = new int[MOST_POSTS];
        private final int[] traits = new int[MOST_CARS * TRAITS];
        int posts;
        int cars;
        int firstLimit;
        int patience = 1;

        /** Builds the site of a text without a fault. */
        void build(Text text) {
            posts = 0;
            cars = 0;
            firstLimit = 10 * text.digitAt(1) + text.digitAt(2);
            patience = text.digitAt(3);
            int at = Text.HEAD;
            for (int parts = 0; parts < MOST_POSTS + MOST_CARS && at < text.length; parts++) {
                if (text.byteAt(at) == 'p') {
                    addPost(text.digitAt(at + 1));
                    at += Text.POST_PART;
                } else {
                    addCar(text, at);
                    at += Text.CAR_PART;
                }
            }
        }

        private void addPost(int ampsOfIt) {
            if (posts < MOST_POSTS) {
                amps[posts] = ampsOfIt;
                posts++;
            }
        }

        private void addCar(Text text, int at) {
            if (cars < MOST_CARS) {
                int row = cars * TRAITS;
                traits[row + NEED] = 10 * text.digitAt(at + 1) + text.digitAt(at + 2);
                traits[row + MAXIMUM] = text.digitAt(at + 3);
                traits[row + RANK] = text.digitAt(at + 4);
                traits[row + KIND] = text.digitAt(at + 5);
                cars++;
            }
        }

        boolean hasPost(int post) {
            return post >= 0 && post < posts;
        }

        boolean hasCar(int car) {
            return car >= 0 && car < cars;
        }

        int ampsOf(int post) {
            return post < 0 || post >= MOST_POSTS ? 0 : amps[post];
        }

        int allAmps() {
            int sum = 0;
            for (int post = 0; post < posts; post++) {
                sum += ampsOf(post);
            }
            return sum;
        }

        int trait(int car, int what) {
            if (car < 0 || car >= MOST_CARS || what < 0 || what >= TRAITS) {
                return 0;
            }
            return traits[car * TRAITS + what];
        }
    }

    /** What acts change, and what undo() and the slots bring back. */
    private static final class State {
        private static final int CELLS = SIGN - CAR + 1;

        private final int[] cells = new int[MOST_POSTS * CELLS];
        private final int[] rest = new int[MOST_CARS];
        int limit;
        int minute;

        void begin(Site site) {
            for (int post = 0; post < MOST_POSTS; post++) {
                set(post, CAR, NONE);
                set(post, METER, 0);
                set(post, SIGN, 0);
                restart(post, FREE);
            }
            for (int car = 0; car < MOST_CARS; car++) {
                rest[car] = site.hasCar(car) ? site.trait(car, NEED) : 0;
            }
            limit = site.firstLimit;
            minute = 0;
        }

        void take(State other) {
            System.arraycopy(other.cells, 0, cells, 0, MOST_POSTS * CELLS);
            System.arraycopy(other.rest, 0, rest, 0, MOST_CARS);
            limit = other.limit;
            minute = other.minute;
        }

        int get(int post, int what) {
            if (post < 0 || post >= MOST_POSTS || what < CAR || what > SIGN) {
                return NONE;
            }
            return cells[post * CELLS + what - CAR];
        }

        void set(int post, int what, int v) {
            if (post >= 0 && post < MOST_POSTS && what >= CAR && what <= SIGN) {
                cells[post * CELLS + what - CAR] = v;
            }
        }

        int restOf(int car) {
            return car < 0 || car >= MOST_CARS ? 0 : rest[car];
        }

        void setRest(int car, int v) {
            if (car >= 0 && car < MOST_CARS) {
                rest[car] = v;
            }
        }

        /** A session begins or ends: the post forgets all but its car, its meter and its sign. */
        void restart(int post, int state) {
            set(post, STATE, state);
            set(post, STAGE, 0);
            set(post, SILENCE, 0);
            set(post, AGE, 0);
            set(post, EXCESS, 0);
        }

        boolean isLive(int post) {
            int state = get(post, STATE);
            return state == PLUGGED || state == READY || state == ON;
        }

        int postOf(int car) {
            for (int post = 0; post < MOST_POSTS; post++) {
                if (get(post, CAR) == car) {
                    return post;
                }
            }
            return NONE;
        }

        int carsAtPosts() {
            int count = 0;
            for (int post = 0; post < MOST_POSTS; post++) {
                if (get(post, CAR) != NONE) {
                    count++;
                }
            }
            return count;
        }

        boolean allCharged() {
            for (int post = 0; post < MOST_POSTS; post++) {
                if (restOf(get(post, CAR)) > 0) {
                    return false;
                }
            }
            return true;
        }

        int postsIn(int state) {
            int set = NO_POST;
            for (int post = 0; post < MOST_POSTS; post++) {
                if (get(post, STATE) == state) {
                    set |= 1 << post;
                }
            }
            return set;
        }

        int meters() {
            int sum = 0;
            for (int post = 0; post < MOST_POSTS; post++) {
                sum += get(post, METER);
            }
            return sum;
        }

        int rests() {
            int sum = 0;
            for (int car = 0; car < MOST_CARS; car++) {
                sum += restOf(car);
            }
            return sum;
        }
    }

    /**
     * What happens to a state: minutes and acts. The acts answer as the public methods do, never
     * less than 0 but for an error, and change nothing if they answer one.
     */
    private static final class Feed {
        private final Site site;
        private final int[] order = new int[MOST_POSTS];
        private final int[] given = new int[MOST_POSTS];

        Feed(Site site) {
            this.site = site;
        }

        int property(State s, int post, int what) {
            return what == INDEX ? indexOf(s, post) : s.get(post, what);
        }

        private int indexOf(State s, int post) {
            int count = arrange(s, ALL_POSTS);
            for (int i = 0; i < count && i < MOST_POSTS; i++) {
                if (order[i] == post) {
                    return i;
                }
            }
            return NONE;
        }

        int passMinutes(State s, int n) {
            if (n < 1 || n > 99) {
                return BAD;
            }
            pass(s, n, ALL_POSTS, ALL_POSTS, NO_CAR);
            return s.meters();
        }

        int plugIn(State s, int post, int car) {
            if (!site.hasPost(post) || !site.hasCar(car)) {
                return UNKNOWN;
            }
            if (s.get(post, STATE) != FREE || s.postOf(car) != NONE) {
                return LATE;
            }
            s.set(post, CAR, car);
            s.restart(post, PLUGGED);
            return s.carsAtPosts();
        }

        int pullOut(State s, int post) {
            if (!site.hasPost(post)) {
                return UNKNOWN;
            }
            int car = s.get(post, CAR);
            if (car == NONE) {
                return LATE;
            }
            s.set(post, CAR, NONE);
            s.restart(post, FREE);
            return car;
        }

        int tell(State s, int post, int message) {
            if (!site.hasPost(post)) {
                return UNKNOWN;
            }
            if (message < 0 || message > END) {
                return BAD;
            }
            if (!s.isLive(post) || kindAt(s, post, NO_CAR) == MUTE) {
                return LATE;
            }
            s.set(post, SILENCE, 0);
            if (message == END) {
                s.set(post, STATE, PLUGGED);
                s.set(post, STAGE, 0);
                s.set(post, AGE, 0);
            } else if (message != ALIVE) {
                climb(s, post, message);
            }
            return s.get(post, STATE);
        }

        private void climb(State s, int post, int message) {
            if (s.get(post, STATE) != PLUGGED || s.get(post, STAGE) != message) {
                s.set(post, STATE, DEAD);
                return;
            }
            s.set(post, STAGE, message + 1);
            if (message == CONTRACT) {
                s.set(post, STATE, READY);
            }
        }

        int revive(State s, int post) {
            if (!site.hasPost(post)) {
                return UNKNOWN;
            }
            if (s.get(post, STATE) != DEAD) {
                return LATE;
            }
            s.restart(post, PLUGGED);
            return Integer.bitCount(s.postsIn(DEAD));
        }

        int changeLimit(State s, int v) {
            if (v < 0 || v > 99) {
                return BAD;
            }
            int before = s.limit;
            s.limit = v;
            return before;
        }

        /**
         * Lets n minutes pass: silent is the set of the posts without communication, fed that of the
         * posts that may belong to the order, and suspect the car that is a liar whatever its kind is.
         */
        void pass(State s, int n, int silent, int fed, int suspect) {
            for (int i = 0; i < n; i++) {
                growSilent(s, silent, suspect);
                changeStates(s, suspect);
                int count = arrange(s, fed);
                give(s, count, suspect);
                draw(s, count, suspect);
                s.minute++;
            }
        }

        private int kindAt(State s, int post, int suspect) {
            int car = s.get(post, CAR);
            return car == suspect ? LIAR : site.trait(car, KIND);
        }

        private void growSilent(State s, int silent, int suspect) {
            for (int post = 0; post < site.posts; post++) {
                if (has(silent, post) && s.isLive(post) && kindAt(s, post, suspect) != MUTE) {
                    int silence = s.get(post, SILENCE) + 1;
                    s.set(post, SILENCE, silence);
                    if (silence > site.patience) {
                        s.set(post, STATE, DEAD);
                    }
                }
            }
        }

        private void changeStates(State s, int suspect) {
            for (int post = 0; post < site.posts; post++) {
                int state = s.get(post, STATE);
                boolean charged = s.restOf(s.get(post, CAR)) == 0;
                if (state == PLUGGED) {
                    growOlder(s, post, suspect);
                } else if (state == READY && !charged) {
                    s.set(post, STATE, ON);
                } else if (state == ON && charged) {
                    s.set(post, STATE, READY);
                }
            }
        }

        private void growOlder(State s, int post, int suspect) {
            int age = s.get(post, AGE) + 1;
            s.set(post, AGE, age);
            if (age >= MUTE_AGE && kindAt(s, post, suspect) == MUTE) {
                s.set(post, STATE, READY);
            }
        }

        /** Puts the fed posts that are on into order and answers how many they are. */
        private int arrange(State s, int fed) {
            int count = 0;
            for (int post = 0; post < MOST_POSTS && count < MOST_POSTS; post++) {
                if (s.get(post, STATE) == ON && has(fed, post)) {
                    int at = count;
                    for (; at > 0 && overtakes(s, post, order[at - 1]); at--) {
                        order[at] = order[at - 1];
                    }
                    order[at] = post;
                    count++;
                }
            }
            return count;
        }

        /** The posts come by their numbers, so one that is equal to an earlier one stays behind it. */
        private boolean overtakes(State s, int post, int earlier) {
            int car = s.get(post, CAR);
            int other = s.get(earlier, CAR);
            int byRank = site.trait(car, RANK) - site.trait(other, RANK);
            return byRank > 0 || byRank == 0 && s.restOf(car) > s.restOf(other);
        }

        /** Each of the first count posts of the order finds what it is given at the same index in given. */
        private void give(State s, int count, int suspect) {
            int left = s.limit;
            for (int i = 0; i < count && i < MOST_POSTS; i++) {
                given[i] = left > 0 ? 1 : 0;
                left -= given[i];
            }
            for (int i = 0; i < count && i < MOST_POSTS; i++) {
                int more = Math.min(left, mostFor(s, order[i], suspect) - given[i]);
                given[i] += more;
                left -= more;
            }
        }

        private int mostFor(State s, int post, int suspect) {
            int car = s.get(post, CAR);
            int most = Math.min(site.trait(car, MAXIMUM), site.ampsOf(post));
            most = Math.min(most, s.restOf(car));
            return kindAt(s, post, suspect) == MUTE ? Math.min(most, MOST_GIVEN_TO_MUTE) : most;
        }

        private void draw(State s, int count, int suspect) {
            for (int i = 0; i < count && i < MOST_POSTS; i++) {
                boolean lies = kindAt(s, order[i], suspect) == LIAR;
                if (given[i] > 0) {
                    meter(s, order[i], lies ? given[i] + 1 : given[i]);
                }
                if (given[i] > 0 && lies) {
                    exceed(s, order[i]);
                }
            }
        }

        /** The meter counts all that is drawn, also what the car draws beyond its need. */
        private void meter(State s, int post, int amount) {
            int car = s.get(post, CAR);
            s.setRest(car, Math.max(0, s.restOf(car) - amount));
            s.set(post, METER, s.get(post, METER) + amount);
            s.set(post, SIGN, nextSign(s.get(post, SIGN), post, amount));
        }

        private void exceed(State s, int post) {
            int excess = s.get(post, EXCESS) + 1;
            if (excess == EXCESS_OF_DEATH) {
                s.set(post, STATE, DEAD);
                excess = 0;
            }
            s.set(post, EXCESS, excess);
        }
    }

    /** The states before the last acts, in a ring in which the newest takes the place of the oldest. */
    private static final class History {
        private final State[] ring = new State[MOST_UNDOS];
        private int next;
        int count;

        History() {
            for (int i = 0; i < MOST_UNDOS; i++) {
                ring[i] = new State();
            }
        }

        void remember(State s) {
            ring[next].take(s);
            next = next + 1 < MOST_UNDOS ? next + 1 : 0;
            count = Math.min(count + 1, MOST_UNDOS);
        }

        int restore(State s) {
            if (count == 0) {
                return LATE;
            }
            next = next > 0 ? next - 1 : MOST_UNDOS - 1;
            count--;
            s.take(ring[next]);
            return count;
        }
    }

    /** The meters that were observed. */
    private static final class Observations {
        private final int[] posts = new int[MOST_SEEN];
        private final int[] minutes = new int[MOST_SEEN];
        private final int[] values = new int[MOST_SEEN];
        int count;

        boolean add(int post, int n, int v) {
            if (count < 0 || count >= MOST_SEEN) {
                return false;
            }
            posts[count] = post;
            minutes[count] = n;
            values[count] = v;
            count++;
            return true;
        }

        /** Says if one of them, n minutes on, is false in a state; those of posts that are gone say nothing. */
        boolean deny(State s, int n, int postsThere) {
            for (int i = 0; i < count && i < MOST_SEEN; i++) {
                boolean due = minutes[i] == n && posts[i] < postsThere;
                if (due && s.get(posts[i], METER) != values[i]) {
                    return true;
                }
            }
            return false;
        }
    }
}
