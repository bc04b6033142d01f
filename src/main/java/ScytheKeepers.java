/**
 * Farmers along a valley, each of whom keeps scythes that are not his own.
 * The words in capitals are the document's (DOC.md, 'Terms').
 */
public final class ScytheKeepers {
    public static final int BAD = -1, STATE = -2, FULL = -3, NONE = -9;
    public static final int NO = -1000000;

    private static final int MOST_FARMERS = 6;
    private static final int MOST_LETTERS = 140;
    private static final int MOST_UNDONE = 10;
    private static final int MOST_SEEN = 6;
    private static final int IMAGES = 2;
    private static final int LAST_DAY = 999;
    private static final int DAYS_AHEAD = 60;
    private static final int MOST_START_DAYS = 20;
    private static final int MOST_FARM = 30;
    private static final int MOST_FIELD = 9;
    private static final int MOST_SHAME = 20;
    private static final int MOST_NERVE = 6;
    private static final int MOST_TENTHS = 10;
    private static final int MOST_ODDS_DAYS = 8;

    private final Text text;
    private final Farms draft;
    private final Farms farms;
    private final Scene scene;
    private final Scene trial;
    private final History history;
    private final Scene[] images;
    private final boolean[] imageKept;
    private final Barns barns;
    private final Stranger stranger;
    private final int[] weights;
    private long traced;

    public ScytheKeepers() {
        text = new Text();
        draft = new Farms();
        farms = new Farms();
        scene = new Scene(farms);
        trial = new Scene(farms);
        history = new History(farms);
        images = new Scene[IMAGES];
        for (int i = 0; i < IMAGES; i++) {
            images[i] = new Scene(farms);
        }
        imageKept = new boolean[IMAGES];
        barns = new Barns(farms);
        stranger = new Stranger();
        weights = new int[MOST_ODDS_DAYS + 1];
    }

    // ---- the valley

    public int type(int letter) {
        if (!within(letter, 0, 255)) {
            return BAD;
        }
        return text.add(letter) ? text.length : FULL;
    }

    public int clear() {
        int had = text.length;
        text.length = 0;
        return had;
    }

    public int valley() {
        if (!text.tells(draft)) {
            return -10 - text.place;
        }
        text.length = 0;
        farms.copyFrom(draft);
        scene.begin();
        history.size = 0;
        stranger.begin();
        for (int i = 0; i < IMAGES; i++) {
            imageKept[i] = false;
        }
        return farms.size;
    }

    public int farmer(int f, int what) {
        if (!farms.has(f)) {
            return BAD;
        }
        switch (what) {
            case 0:
                return farms.farm[f];
            case 1:
                return scene.left[f];
            case 2:
                return farms.shame[f];
            case 3:
                return farms.nerve[f];
            case 4:
                return scene.keeper[f];
            case 5:
                return scene.hasAsked(f) ? 1 : 0;
            case 6:
                return scene.hungWith(f);
            case 7:
                return scene.ringOf(f);
            case 8:
                return daysTillAsked(f);
            case 9:
                return daysTillMown(1 << f);
            default:
                return BAD;
        }
    }

    public int now(int what) {
        switch (what) {
            case 0:
                return scene.date;
            case 1:
                return scene.asked;
            case 2:
                return scene.leftTogether();
            case 3:
                return daysTillMown(farms.everyone());
            case 4:
                return history.size;
            default:
                return BAD;
        }
    }

    // ---- what is done

    public int day(int dry) {
        if (!within(dry, 0, 1)) {
            return BAD;
        }
        if (scene.date >= LAST_DAY) {
            return STATE;
        }
        history.push(scene);
        return scene.pass(dry == 1);
    }

    public int brings(int f) {
        if (!farms.has(f)) {
            return BAD;
        }
        if (scene.hasAsked(f)) {
            return STATE;
        }
        history.push(scene);
        scene.asked |= 1 << f;
        return Integer.bitCount(scene.asked);
    }

    public int hangs(int f, int keeper) {
        if (!farms.has(f) || !farms.has(keeper) || f == keeper) {
            return BAD;
        }
        int before = scene.keeper[f];
        if (scene.hasAsked(f) || before == keeper) {
            return STATE;
        }
        history.push(scene);
        scene.keeper[f] = keeper;
        return before;
    }

    public int undo() {
        if (history.size == 0) {
            return STATE;
        }
        history.pop(scene);
        return history.size;
    }

    // ---- what is best

    public int start(int n) {
        if (!within(n, 0, MOST_START_DAYS)) {
            return BAD;
        }
        int everyone = farms.everyone();
        int best = everyone & ~scene.asked;
        for (int set = 0; set <= everyone; set++) {
            boolean fewer = Integer.bitCount(set) < Integer.bitCount(best);
            if (fewer && (set & scene.asked) == 0 && allAskBehind(n, set)) {
                best = set;
            }
        }
        return best;
    }

    public int hang(int f) {
        if (f != -1 && !farms.has(f)) {
            return BAD;
        }
        if (farms.size == 0) {
            return NONE;
        }
        barns.search();
        return f == -1 ? barns.far : barns.keeper[f];
    }

    public int odds(int f, int x, int n, int what) {
        if (!farms.has(f) || !within(x, 0, MOST_TENTHS)
                || !within(n, 0, MOST_ODDS_DAYS) || !within(what, 0, 1)) {
            return BAD;
        }
        weigh(x, n);
        int left = scene.left[f];
        int upper = left > n ? 0 : weights[left];
        int lower = weights[0];
        int common = commonDivisor(lower, upper);
        return (what == 0 ? upper : lower) / common;
    }

    // ---- how much shame

    public int sees(int d, int m, int had) {
        if (!within(d, 0, MOST_SHAME) || !within(m, 0, MOST_NERVE) || !within(had, 0, 1)) {
            return BAD;
        }
        if (stranger.seen >= MOST_SEEN) {
            return FULL;
        }
        stranger.learn(d, m, had == 1);
        return stranger.seen;
    }

    public int forget() {
        int had = stranger.seen;
        stranger.begin();
        return had;
    }

    public int ones(int what) {
        switch (what) {
            case 0:
                return stranger.number(0, MOST_SHAME);
            case 1:
                return stranger.leastShame();
            case 2:
                return stranger.greatestShame();
            default:
                return BAD;
        }
    }

    public int look(int d) {
        if (!within(d, 0, MOST_SHAME)) {
            return BAD;
        }
        return stranger.bestOthers(d);
    }

    // ---- kinds, images

    public int rate(int kind, int f) {
        if (!farms.has(f)) {
            return NO;
        }
        switch (kind) {
            case 0:
                return asFarmer(f);
            case 1:
                return asMower(f);
            case 2:
                return asLate(f);
            case 3:
                return asSon(f);
            case 4:
                return asCousin(f);
            case 5:
                return asSnow(f);
            default:
                return NO;
        }
    }

    public int keep(int image) {
        if (!within(image, 0, IMAGES - 1)) {
            return BAD;
        }
        images[image].copyFrom(scene);
        imageKept[image] = true;
        return scene.date;
    }

    public int back(int image) {
        if (!within(image, 0, IMAGES - 1)) {
            return BAD;
        }
        if (!imageKept[image]) {
            return STATE;
        }
        scene.copyFrom(images[image]);
        history.size = 0;
        return scene.date;
    }

    public int count(int what) {
        switch (what) {
            case 0:
                return farms.size;
            case 1:
                return stranger.seen;
            case 2:
                return text.length;
            default:
                return BAD;
        }
    }

    public long trace() {
        return traced;
    }

    private static boolean within(int number, int least, int most) {
        return number >= least && number <= most;
    }

    /** ASKS; whether days are dry or wet is nothing to it. */
    private int daysTillAsked(int f) {
        int asked = scene.asked;
        for (int days = 0; days <= DAYS_AHEAD; days++) {
            if ((asked >> f & 1) == 1) {
                return days;
            }
            asked = farms.askedBehind(asked, scene.date + days);
        }
        return NONE;
    }

    /** DONE and ALL: behind how many dry DAYS none of these (bits) has anything left. */
    private int daysTillMown(int who) {
        trial.copyFrom(scene);
        for (int days = 0; days <= DAYS_AHEAD; days++) {
            if (trial.allMown(who)) {
                return days;
            }
            trial.pass(true);
        }
        return NONE;
    }

    private boolean allAskBehind(int n, int brought) {
        int asked = scene.asked | brought;
        for (int days = 0; days < n; days++) {
            asked = farms.askedBehind(asked, scene.date + days);
        }
        return asked == farms.everyone();
    }

    /** weights[k] of weights[0]: the ODDS that k days at least of n are dry. */
    private void weigh(int x, int n) {
        weights[0] = 1;
        for (int k = 1; k <= MOST_ODDS_DAYS; k++) {
            weights[k] = 0;
        }
        for (int days = 0; days < n; days++) {
            // downwards, so that the weight below is still that of the day before
            for (int k = MOST_ODDS_DAYS; k >= 1; k--) {
                weights[k] = x * weights[k - 1] + (MOST_TENTHS - x) * weights[k];
            }
            weights[0] = MOST_TENTHS * weights[0];
        }
    }

    /** Euclid's; numbers up to 10^8 need far less than 64 steps. It is never 0. */
    private static int commonDivisor(int first, int second) {
        int a = first;
        int b = second;
        for (int step = 0; step < 64 && b != 0; step++) {
            int rest = a % b;
            a = b;
            b = rest;
        }
        return a == 0 ? 1 : a;
    }

    private int asFarmer(int f) {
        traced += 1;
        return scene.left[f];
    }

    private int asMower(int f) {
        traced += 10;
        return asFarmer(f) + Integer.bitCount(scene.hungWith(f));
    }

    private int asLate(int f) {
        traced += 100;
        return asFarmer(f) - farms.shame[f];
    }

    private int asSon(int f) {
        traced += 1000;
        return 2 * asMower(f);
    }

    private int asCousin(int f) {
        traced += 10000;
        return asLate(f) + f;
    }

    private int asSnow(int f) {
        traced += 100000;
        return asFarmer(f) + scene.date;
    }

    /** FARMERS as the text told them; nothing of it changes until a text is read anew. */
    private static final class Farms {
        private int size;
        private final int[] farm = new int[MOST_FARMERS];
        private final int[] field = new int[MOST_FARMERS];
        private final int[] shame = new int[MOST_FARMERS];
        private final int[] nerve = new int[MOST_FARMERS];
        private final int[] keeper = new int[MOST_FARMERS];

        private boolean has(int f) {
            return f >= 0 && f < size;
        }

        private int everyone() {
            return (1 << size) - 1;
        }

        private void copyFrom(Farms other) {
            size = other.size;
            for (int f = 0; f < MOST_FARMERS; f++) {
                farm[f] = other.farm[f];
                field[f] = other.field[f];
                shame[f] = other.shame[f];
                nerve[f] = other.nerve[f];
                keeper[f] = other.keeper[f];
            }
        }

        private boolean keepersAreThere() {
            for (int f = 0; f < size; f++) {
                if (!has(keeper[f])) {
                    return false;
                }
            }
            return true;
        }

        /** Who has ASKED behind a DAY's morning, if these had ahead of it. */
        private int askedBehind(int asked, int date) {
            int others = Integer.bitCount(asked);
            int behind = asked;
            for (int f = 0; f < size; f++) {
                if (shame[f] <= date || nerve[f] <= others) {
                    behind |= 1 << f;
                }
            }
            return behind;
        }
    }

    /** NOW, or what stood or might stand in its stead. */
    private static final class Scene {
        private final Farms farms;
        private int date;
        private int asked;
        private final int[] left = new int[MOST_FARMERS];
        private final int[] keeper = new int[MOST_FARMERS];

        private Scene(Farms farms) {
            this.farms = farms;
        }

        private void begin() {
            date = 0;
            asked = 0;
            for (int f = 0; f < MOST_FARMERS; f++) {
                left[f] = farms.field[f];
                keeper[f] = farms.keeper[f];
            }
        }

        private void copyFrom(Scene other) {
            date = other.date;
            asked = other.asked;
            for (int f = 0; f < MOST_FARMERS; f++) {
                left[f] = other.left[f];
                keeper[f] = other.keeper[f];
            }
        }

        private boolean hasAsked(int f) {
            return (asked >> f & 1) == 1;
        }

        private int hungWith(int k) {
            int whose = 0;
            for (int f = 0; f < farms.size; f++) {
                if (keeper[f] == k) {
                    whose |= 1 << f;
                }
            }
            return whose;
        }

        private int ringOf(int f) {
            int one = keeper[f];
            for (int steps = 1; steps <= farms.size && farms.has(one); steps++) {
                if (one == f) {
                    return steps;
                }
                one = keeper[one];
            }
            return 0;
        }

        private int leftTogether() {
            int sum = 0;
            for (int f = 0; f < farms.size; f++) {
                sum += left[f];
            }
            return sum;
        }

        private boolean allMown(int who) {
            for (int f = 0; f < farms.size; f++) {
                if ((who >> f & 1) == 1 && left[f] > 0) {
                    return false;
                }
            }
            return true;
        }

        /** A DAY: how much is mown on it. */
        private int pass(boolean dry) {
            asked = farms.askedBehind(asked, date);
            date++;
            return dry ? mowAll() : 0;
        }

        private int mowAll() {
            int free = 0;
            int mown = 0;
            for (int f = 0; f < farms.size; f++) {
                if (hasAsked(f)) {
                    if (left[f] > 0) {
                        left[f]--;
                        mown++;
                    } else {
                        free |= 1 << f;
                    }
                }
            }
            for (int f = 0; f < farms.size; f++) {
                if ((free >> f & 1) == 1 && mowsForAnother(f)) {
                    mown++;
                }
            }
            return mown;
        }

        private boolean mowsForAnother(int k) {
            for (int f = 0; f < farms.size; f++) {
                if (keeper[f] == k && hasAsked(f) && left[f] > 0) {
                    left[f]--;
                    return true;
                }
            }
            return false;
        }
    }

    /** What stood ahead of the latest changes; the oldest one's place is taken when all are. */
    private static final class History {
        private final Scene[] scenes = new Scene[MOST_UNDONE];
        private int next;
        private int size;

        private History(Farms farms) {
            for (int i = 0; i < MOST_UNDONE; i++) {
                scenes[i] = new Scene(farms);
            }
        }

        private void push(Scene scene) {
            scenes[next].copyFrom(scene);
            next = next == MOST_UNDONE - 1 ? 0 : next + 1;
            size = Math.min(size + 1, MOST_UNDONE);
        }

        private void pop(Scene scene) {
            next = next == 0 ? MOST_UNDONE - 1 : next - 1;
            size--;
            scene.copyFrom(scenes[next]);
        }
    }

    /** THE TEXT. After tells(), if it was not right, place is the FAULT. */
    private static final class Text {
        private static final int END = 0, LETTER_F = 1, NUMBER = 2, ENDING = 3, WRONG = 4;
        private static final int MOST_NUMBER = 99;

        private final char[] letters = new char[MOST_LETTERS];
        private int length;
        private int next;
        private int place;
        private int token;
        private int number;

        /** Whether there was room for it. */
        private boolean add(int letter) {
            if (length >= MOST_LETTERS) {
                return false;
            }
            letters[length] = (char) letter;
            length++;
            return true;
        }

        private boolean tells(Farms told) {
            next = 0;
            told.size = 0;
            step();
            // an ITEM has more letters than one: there are fewer of them than letters
            for (int item = 0; item < MOST_LETTERS && token != END; item++) {
                if (item >= MOST_FARMERS || !tellsOne(told, item)) {
                    return false;
                }
                told.size = item + 1;
                step();
            }
            // the token that stands now is the end, so that place is the length
            return told.keepersAreThere();
        }

        private boolean tellsOne(Farms told, int f) {
            boolean right = token == LETTER_F
                    && tellsNumber(told.farm, f, 0, MOST_FARM)
                    && tellsNumber(told.field, f, 1, MOST_FIELD)
                    && tellsNumber(told.shame, f, 0, MOST_SHAME)
                    && tellsNumber(told.nerve, f, 0, MOST_NERVE)
                    && tellsNumber(told.keeper, f, 0, MOST_FARMERS - 1)
                    && told.keeper[f] != f;
            if (!right) {
                return false;
            }
            step();
            return token == ENDING;
        }

        private boolean tellsNumber(int[] row, int f, int least, int most) {
            step();
            if (token != NUMBER || number < least || number > most) {
                return false;
            }
            row[f] = number;
            return true;
        }

        private void step() {
            while (next < length && letters[next] == ' ') {
                next++;
            }
            place = next;
            if (next >= length) {
                token = END;
            } else if (isDigit(letters[next])) {
                stepOverNumber();
            } else {
                token = letters[next] == 'f' ? LETTER_F : letters[next] == ';' ? ENDING : WRONG;
                next++;
            }
        }

        private void stepOverNumber() {
            number = 0;
            while (next < length && isDigit(letters[next])) {
                // held just above the limit, so that a long one can't wrap around
                number = Math.min(number * 10 + (letters[next] - '0'), MOST_NUMBER + 1);
                next++;
            }
            boolean zeroAhead = letters[place] == '0' && next - place > 1;
            token = zeroAhead || number > MOST_NUMBER ? WRONG : NUMBER;
        }

        private static boolean isDigit(char letter) {
            return letter >= '0' && letter <= '9';
        }
    }

    /** HANG: ways are gone through by the order of their KEEPERS, so that the first of the best is met first. */
    private static final class Barns {
        private static final int BEYOND_ALL = MOST_FARMERS * MOST_FARM + 1;

        private final Farms farms;
        private int far;
        private final int[] keeper = new int[MOST_FARMERS];
        private final int[] tried = new int[MOST_FARMERS];

        private Barns(Farms farms) {
            this.farms = farms;
        }

        private void search() {
            far = BEYOND_ALL;
            hangFrom(this, 0, 0, 0);
        }

        /** Hangs the scythes of f and of those behind him, if the barns of these bits are taken. */
        private static void hangFrom(Barns barns, int f, int taken, int farSoFar) {
            if (farSoFar >= barns.far) {
                return;
            }
            if (f >= barns.farms.size || f >= MOST_FARMERS) {
                barns.far = farSoFar;
                System.arraycopy(barns.tried, 0, barns.keeper, 0, MOST_FARMERS);
                return;
            }
            for (int k = 0; k < barns.farms.size; k++) {
                if (k != f && (taken >> k & 1) == 0) {
                    barns.tried[f] = k;
                    int way = Math.abs(barns.farms.farm[f] - barns.farms.farm[k]);
                    hangFrom(barns, f + 1, taken | 1 << k, farSoFar + way);
                }
            }
        }
    }

    /** ONES: the twos of SHAME and NERVE that what was SEEN leaves. */
    private static final class Stranger {
        private static final int NERVES = MOST_NERVE + 1;

        private int seen;
        private final boolean[] ruledOut = new boolean[(MOST_SHAME + 1) * NERVES];

        private void begin() {
            seen = 0;
            for (int i = 0; i < ruledOut.length; i++) {
                ruledOut[i] = false;
            }
        }

        private void learn(int d, int m, boolean had) {
            seen++;
            for (int shame = 0; shame <= MOST_SHAME; shame++) {
                for (int nerve = 0; nerve <= MOST_NERVE; nerve++) {
                    boolean asks = shame <= d || nerve <= m;
                    if (asks != had) {
                        ruledOut[shame * NERVES + nerve] = true;
                    }
                }
            }
        }

        /** How many of ONES have a SHAME from least to most. */
        private int number(int least, int most) {
            int sum = 0;
            for (int nerve = 0; nerve <= MOST_NERVE; nerve++) {
                sum += numberOfNerve(nerve, least, most);
            }
            return sum;
        }

        private int numberOfNerve(int nerve, int least, int most) {
            int sum = 0;
            for (int shame = least; shame <= most; shame++) {
                if (!ruledOut[shame * NERVES + nerve]) {
                    sum++;
                }
            }
            return sum;
        }

        private int leastShame() {
            for (int shame = 0; shame <= MOST_SHAME; shame++) {
                if (number(shame, shame) > 0) {
                    return shame;
                }
            }
            return NONE;
        }

        private int greatestShame() {
            for (int shame = MOST_SHAME; shame >= 0; shame--) {
                if (number(shame, shame) > 0) {
                    return shame;
                }
            }
            return NONE;
        }

        /** LOOK for a DAY d. */
        private int bestOthers(int d) {
            int all = number(0, MOST_SHAME);
            if (all <= 1) {
                return NONE;
            }
            int best = 0;
            int smallest = all + 1;
            int asking = number(0, d);
            for (int m = 0; m <= MOST_NERVE; m++) {
                asking += numberOfNerve(m, d + 1, MOST_SHAME);
                int greater = Math.max(asking, all - asking);
                if (greater < smallest) {
                    smallest = greater;
                    best = m;
                }
            }
            return best;
        }
    }
}
