/** A town of rooms in which a child is as old as the room it comes in. The document says what each call promises. */
public final class RoomBorn {
    public static final int BAD = -1, STATE = -2, FULL = -3, NONE = -9;
    public static final int NO = -1000000;

    private static final int MOST_ROOMS = 6;
    private static final int MOST_MOTHERS = 6;
    private static final int MOST_WORKS = 5;
    private static final int MOST_LETTERS = 120;
    private static final int MOST_SEEN = 6;
    private static final int MOST_UNDONE = 10;
    private static final int IMAGES = 2;
    private static final int KINDS = 6;
    private static final int GREATEST_NUMBER = 99;
    private static final int MOTHERS_AT_FIRST = 3;
    private static final int LIFE_AT_FIRST = 70;
    private static final int LEAST_LIFE = 10;
    private static final int LAST_YEAR = 99;
    private static final int OLDEST_ROOM = 198;
    private static final int LASTS_AT_MOST = 60;
    private static final int FAULT_AT = -10;

    private final Text text = new Text();
    private final Moment today = new Moment();
    private final Past past = new Past();
    private final Moment[] images = new Moment[IMAGES];
    private final boolean[] kept = new boolean[IMAGES];
    private final Filling filling = new Filling();
    private final Seen seen = new Seen();
    private Told told = new Told();
    private Told draft = new Told();
    private long traced = 0;

    public RoomBorn() {
        for (int i = 0; i < IMAGES; i++) {
            images[i] = new Moment();
        }
        today.begin(told);
    }

    // ---- the town.

    public int type(int letter) {
        if (letter < 0 || letter > 255) {
            return BAD;
        }
        if (text.length >= MOST_LETTERS) {
            return FULL;
        }
        text.add(letter);
        return text.length;
    }

    public int clear() {
        int had = text.length;
        text.length = 0;
        return had;
    }

    public int town() {
        if (!text.reads(draft)) {
            return FAULT_AT - text.start;
        }
        Told former = told;
        told = draft;
        draft = former;
        text.length = 0;
        beginAnew();
        return told.items;
    }

    public int room(int r, int what) {
        if (!isRoom(r)) {
            return BAD;
        }
        switch (what) {
            case 0:
                return today.old[r];
            case 1:
                return today.ageOfRoom(r);
            case 2:
                return today.joined[r];
            default:
                return BAD;
        }
    }

    public int child(int c, int what) {
        if (!isMother(c)) {
            return BAD;
        }
        switch (what) {
            case 0:
                return has(today.born, c) ? 1 : 0;
            case 1:
                return has(today.living, c) ? 1 : 0;
            case 2:
                return has(today.living, c) ? today.age[c] : NONE;
            case 3:
                return worksOfChild(c);
            default:
                return BAD;
        }
    }

    public int work(int w, int what) {
        if (!isWork(w)) {
            return BAD;
        }
        switch (what) {
            case 0:
                return told.low[w];
            case 1:
                return told.high[w];
            case 2:
                return whoCanDo(w, 0);
            case 3:
                return yearsUntilNobody(w);
            default:
                return BAD;
        }
    }

    public int now(int what) {
        switch (what) {
            case 0:
                return today.yearNumber;
            case 1:
                return today.living;
            case 2:
                return today.born;
            case 3:
                return mostFilled();
            case 4:
                return past.known;
            default:
                return BAD;
        }
    }

    // ---- what is done.

    public int bears(int m, int r) {
        if (!isMother(m) || !isRoom(r)) {
            return BAD;
        }
        if (has(today.born, m)) {
            return STATE;
        }
        past.remember(today);
        return today.bear(m, r, told.life);
    }

    public int year() {
        if (today.yearNumber >= LAST_YEAR) {
            return STATE;
        }
        past.remember(today);
        return today.passYear(told);
    }

    public int joins(int a, int b) {
        if (!isRoom(a) || !isRoom(b) || a == b) {
            return BAD;
        }
        if (has(today.joined[a], b)) {
            return STATE;
        }
        past.remember(today);
        today.knockThrough(a, b);
        return today.ageOfRoom(a);
    }

    public int builds(int r) {
        if (!isRoom(r)) {
            return BAD;
        }
        int was = today.old[r];
        if (was == 0 && today.joined[r] == bit(r)) {
            return STATE;
        }
        past.remember(today);
        today.buildAnew(r);
        return was;
    }

    public int undo() {
        if (past.known == 0) {
            return STATE;
        }
        past.restore(today);
        return past.known;
    }

    // ---- works.

    public int fills(int c) {
        if (!isMother(c)) {
            return BAD;
        }
        mostFilled();
        return filling.workOf(c);
    }

    public int carry(int m, int what) {
        if (!isMother(m) || what < 0 || what > 1) {
            return BAD;
        }
        if (has(today.born, m)) {
            return STATE;
        }
        tellFilling();
        int best = NONE;
        int most = NONE;
        for (int r = 0; r < told.rooms; r++) {
            filling.can[m] = told.worksAt(today.ageOfRoom(r));
            int filled = filling.solve();
            if (filled > most) {
                best = r;
                most = filled;
            }
        }
        return what == 0 ? best : most;
    }

    public int join(int a) {
        if (a < 0 || a > OLDEST_ROOM) {
            return BAD;
        }
        int best = NONE;
        int fewest = MOST_ROOMS + 1;
        for (int set = 1; set < bit(told.rooms); set++) {
            int size = Integer.bitCount(set);
            if (size < fewest && today.ageTogether(set) == a) {
                best = set;
                fewest = size;
            }
        }
        return best;
    }

    public int elder(int k) {
        if (k < 0 || k >= MOST_MOTHERS) {
            return BAD;
        }
        for (int c = 0; c < told.mothers; c++) {
            if (has(today.living, c) && today.howManyAheadOf(c) == k) {
                return c;
            }
        }
        return NONE;
    }

    public int odds(int w, int what) {
        if (!isWork(w) || what < 0 || what > 1) {
            return BAD;
        }
        // Without rooms it is 0 by 1: the upper number is asked for as 0, the lower as 1.
        if (told.rooms == 0) {
            return what;
        }
        int unborn = told.mothers - Integer.bitCount(today.born);
        int lower = power(told.rooms, unborn);
        int upper = lower - power(told.rooms - roomsToDo(w), unborn);
        int divisor = greatestDivisor(upper, lower);
        if (divisor == 0) {
            return what;
        }
        return (what == 0 ? upper : lower) / divisor;
    }

    // ---- how old.

    public int sees(int w, int can) {
        if (!isWork(w) || can < 0 || can > 1) {
            return BAD;
        }
        if (seen.known >= MOST_SEEN) {
            return FULL;
        }
        seen.add(w, can == 1);
        return seen.known;
    }

    public int forget() {
        int had = seen.known;
        seen.known = 0;
        return had;
    }

    public int ages(int what) {
        switch (what) {
            case 0:
                return possibleAges();
            case 1:
                return leastAge();
            case 2:
                return greatestAge();
            default:
                return BAD;
        }
    }

    public int next() {
        int all = possibleAges();
        if (all <= 1) {
            return NONE;
        }
        int best = NONE;
        int smallest = all + 1;
        for (int w = 0; w < told.works; w++) {
            int done = possibleAgesAtWork(w);
            int greater = Math.max(done, all - done);
            if (greater < smallest) {
                best = w;
                smallest = greater;
            }
        }
        return best;
    }

    // ---- kinds, images.

    public int rate(int kind, int c) {
        if (kind < 0 || kind >= KINDS || !isMother(c)) {
            return NO;
        }
        switch (kind) {
            case 1:
                return rateAttic(c);
            case 2:
                return rateCellar(c);
            case 3:
                return rateGable(c);
            case 4:
                return rateCrypt(c);
            case 5:
                return rateCart(c);
            default:
                return rateChild(c);
        }
    }

    public int keep(int image) {
        if (!isImage(image)) {
            return BAD;
        }
        images[image].become(today);
        kept[image] = true;
        return today.yearNumber;
    }

    public int back(int image) {
        if (!isImage(image)) {
            return BAD;
        }
        if (!kept[image]) {
            return STATE;
        }
        today.become(images[image]);
        past.known = 0;
        return today.yearNumber;
    }

    public int count(int what) {
        switch (what) {
            case 0:
                return told.rooms;
            case 1:
                return told.mothers;
            case 2:
                return told.works;
            case 3:
                return told.life;
            case 4:
                return seen.known;
            case 5:
                return text.length;
            default:
                return BAD;
        }
    }

    public long trace() {
        return traced;
    }

    private void beginAnew() {
        today.begin(told);
        past.known = 0;
        seen.known = 0;
        for (int i = 0; i < IMAGES; i++) {
            kept[i] = false;
        }
    }

    private boolean isRoom(int r) {
        return r >= 0 && r < told.rooms;
    }

    private boolean isMother(int m) {
        return m >= 0 && m < told.mothers;
    }

    private boolean isWork(int w) {
        return w >= 0 && w < told.works;
    }

    private static boolean isImage(int image) {
        return image >= 0 && image < IMAGES;
    }

    private static int bit(int i) {
        return 1 << i;
    }

    private static boolean has(int bits, int i) {
        return (bits & bit(i)) != 0;
    }

    private int worksOfChild(int c) {
        return has(today.living, c) ? told.worksAt(today.age[c]) : 0;
    }

    private int whoCanDo(int w, int later) {
        int who = 0;
        for (int c = 0; c < told.mothers; c++) {
            if (has(today.living, c) && told.does(w, today.age[c] + later)) {
                who |= bit(c);
            }
        }
        return who;
    }

    private int yearsUntilNobody(int w) {
        for (int later = 0; later <= LASTS_AT_MOST; later++) {
            if (whoCanDo(w, later) == 0) {
                return later;
            }
        }
        return NONE;
    }

    private void tellFilling() {
        filling.children = told.mothers;
        filling.works = told.works;
        for (int c = 0; c < told.mothers; c++) {
            filling.can[c] = worksOfChild(c);
        }
    }

    private int mostFilled() {
        tellFilling();
        return filling.solve();
    }

    private int roomsToDo(int w) {
        int many = 0;
        for (int r = 0; r < told.rooms; r++) {
            if (told.does(w, today.ageOfRoom(r))) {
                many++;
            }
        }
        return many;
    }

    private static int power(int base, int exponent) {
        int product = 1;
        for (int i = 0; i < exponent; i++) {
            product *= base;
        }
        return product;
    }

    private static int greatestDivisor(int a, int b) {
        int greater = a;
        int smaller = b;
        // Forty steps are enough for numbers up to 6 to the 6th.
        for (int step = 0; step < 40 && smaller != 0; step++) {
            int rest = greater % smaller;
            greater = smaller;
            smaller = rest;
        }
        return greater;
    }

    private int possibleAges() {
        int many = 0;
        for (int age = 0; age <= GREATEST_NUMBER; age++) {
            if (seen.allows(told, age)) {
                many++;
            }
        }
        return many;
    }

    private int possibleAgesAtWork(int w) {
        int many = 0;
        for (int age = 0; age <= GREATEST_NUMBER; age++) {
            if (told.spans(w, age) && seen.allows(told, age)) {
                many++;
            }
        }
        return many;
    }

    private int leastAge() {
        for (int age = 0; age <= GREATEST_NUMBER; age++) {
            if (seen.allows(told, age)) {
                return age;
            }
        }
        return NONE;
    }

    private int greatestAge() {
        for (int age = GREATEST_NUMBER; age >= 0; age--) {
            if (seen.allows(told, age)) {
                return age;
            }
        }
        return NONE;
    }

    private int rateChild(int c) {
        traced += 1;
        return has(today.living, c) ? today.age[c] : 0;
    }

    private int rateAttic(int c) {
        traced += 10;
        return rateChild(c) + today.yearNumber;
    }

    private int rateCellar(int c) {
        traced += 100;
        return rateChild(c) - Integer.bitCount(worksOfChild(c));
    }

    private int rateGable(int c) {
        traced += 1000;
        // The body above is asked once: asking it twice would be seen in the trace.
        return 2 * rateAttic(c);
    }

    private int rateCrypt(int c) {
        traced += 10000;
        return rateCellar(c) + c;
    }

    private int rateCart(int c) {
        traced += 100000;
        return rateChild(c) + Integer.bitCount(today.living);
    }

    /** What a text tells. A draft is read beside the one in force, so that a fault changes nothing. */
    private static final class Told {
        private final int[] old = new int[MOST_ROOMS];
        private final int[] low = new int[MOST_WORKS];
        private final int[] high = new int[MOST_WORKS];
        private int items;
        private int rooms;
        private int mothers;
        private int works;
        private int life;

        private Told() {
            tellNothing();
        }

        private void tellNothing() {
            items = 0;
            rooms = 0;
            mothers = MOTHERS_AT_FIRST;
            works = 0;
            life = LIFE_AT_FIRST;
        }

        private boolean spans(int w, int age) {
            return low[w] <= age && age <= high[w];
        }

        private boolean does(int w, int age) {
            return age < life && spans(w, age);
        }

        private int worksAt(int age) {
            int bits = 0;
            for (int w = 0; w < works; w++) {
                if (does(w, age)) {
                    bits |= bit(w);
                }
            }
            return bits;
        }
    }

    /** The text, read token by token. What can't stand is always the token just read, so its start is the fault. */
    private static final class Text {
        private static final int END = -1;
        private static final int NUMBER = -2;

        private final int[] letters = new int[MOST_LETTERS];
        private int length = 0;
        private int place;
        private int start;
        private int token;
        private int value;
        private boolean mothersTold;
        private boolean lifeTold;

        private void add(int letter) {
            letters[length] = letter;
            length++;
        }

        private boolean reads(Told into) {
            place = 0;
            mothersTold = false;
            lifeTold = false;
            into.tellNothing();
            // An item has a letter at least, so there are no more items than letters.
            for (int i = 0; i <= length; i++) {
                readToken();
                if (token == END) {
                    return true;
                }
                if (!readsItem(into) || !readsItemEnd()) {
                    return false;
                }
                into.items++;
            }
            return false;
        }

        private boolean readsItem(Told into) {
            switch (token) {
                case 'a':
                    return readsRoom(into);
                case 'w':
                    return readsWork(into);
                case 'm':
                    return readsMothers(into);
                case 'l':
                    return readsLife(into);
                default:
                    return false;
            }
        }

        private boolean readsRoom(Told into) {
            if (into.rooms >= MOST_ROOMS || !readsNumber(0, GREATEST_NUMBER)) {
                return false;
            }
            into.old[into.rooms] = value;
            into.rooms++;
            return true;
        }

        private boolean readsWork(Told into) {
            if (into.works >= MOST_WORKS || !readsNumber(0, GREATEST_NUMBER)) {
                return false;
            }
            int low = value;
            if (!readsNumber(low, GREATEST_NUMBER)) {
                return false;
            }
            into.low[into.works] = low;
            into.high[into.works] = value;
            into.works++;
            return true;
        }

        private boolean readsMothers(Told into) {
            if (mothersTold || !readsNumber(1, MOST_MOTHERS)) {
                return false;
            }
            into.mothers = value;
            mothersTold = true;
            return true;
        }

        private boolean readsLife(Told into) {
            if (lifeTold || !readsNumber(LEAST_LIFE, GREATEST_NUMBER)) {
                return false;
            }
            into.life = value;
            lifeTold = true;
            return true;
        }

        private boolean readsItemEnd() {
            readToken();
            return token == ';';
        }

        private boolean readsNumber(int least, int most) {
            readToken();
            return token == NUMBER && value >= least && value <= most;
        }

        private void readToken() {
            while (place < length && letters[place] == ' ') {
                place++;
            }
            start = place;
            if (place >= length) {
                token = END;
            } else if (isDigit(letters[place])) {
                token = NUMBER;
                readDigits();
            } else {
                token = letters[place];
                place++;
            }
        }

        private void readDigits() {
            boolean leadingZero = letters[place] == '0';
            value = 0;
            while (place < length && isDigit(letters[place])) {
                value = Math.min(value * 10 + letters[place] - '0', GREATEST_NUMBER + 1);
                place++;
            }
            if (leadingZero && place - start > 1) {
                // A number beyond the greatest stands nowhere, as it should be with this one.
                value = GREATEST_NUMBER + 1;
            }
        }

        private static boolean isDigit(int letter) {
            return letter >= '0' && letter <= '9';
        }
    }

    /** All that a deed changes, that undoing brings back, and that an image keeps. */
    private static final class Moment {
        private final int[] old = new int[MOST_ROOMS];
        private final int[] joined = new int[MOST_ROOMS];
        private final int[] age = new int[MOST_MOTHERS];
        private int yearNumber;
        private int born;
        private int living;

        private void begin(Told told) {
            yearNumber = 0;
            born = 0;
            living = 0;
            for (int r = 0; r < MOST_ROOMS; r++) {
                old[r] = told.old[r];
                joined[r] = bit(r);
            }
        }

        private void become(Moment other) {
            yearNumber = other.yearNumber;
            born = other.born;
            living = other.living;
            System.arraycopy(other.old, 0, old, 0, MOST_ROOMS);
            System.arraycopy(other.joined, 0, joined, 0, MOST_ROOMS);
            System.arraycopy(other.age, 0, age, 0, MOST_MOTHERS);
        }

        private int ageOfRoom(int r) {
            return ageTogether(joined[r]);
        }

        private int ageTogether(int set) {
            int sum = 0;
            int many = 0;
            for (int r = 0; r < MOST_ROOMS; r++) {
                if (has(set, r)) {
                    sum += old[r];
                    many++;
                }
            }
            return many == 0 ? 0 : sum / many;
        }

        private int bear(int m, int r, int life) {
            age[m] = ageOfRoom(r);
            born |= bit(m);
            if (age[m] < life) {
                living |= bit(m);
            }
            return age[m];
        }

        private int passYear(Told told) {
            yearNumber++;
            for (int r = 0; r < told.rooms; r++) {
                old[r]++;
            }
            int dying = 0;
            for (int c = 0; c < told.mothers; c++) {
                if (has(living, c)) {
                    age[c]++;
                    if (age[c] >= told.life) {
                        living &= ~bit(c);
                        dying++;
                    }
                }
            }
            return dying;
        }

        private void knockThrough(int a, int b) {
            int both = joined[a] | joined[b];
            for (int r = 0; r < MOST_ROOMS; r++) {
                if (has(both, r)) {
                    joined[r] = both;
                }
            }
        }

        private void buildAnew(int built) {
            for (int r = 0; r < MOST_ROOMS; r++) {
                joined[r] &= ~bit(built);
            }
            joined[built] = bit(built);
            old[built] = 0;
        }

        private int howManyAheadOf(int c) {
            int ahead = 0;
            for (int other = 0; other < MOST_MOTHERS; other++) {
                boolean older = age[other] > age[c] || (age[other] == age[c] && other < c);
                if (has(living, other) && older) {
                    ahead++;
                }
            }
            return ahead;
        }
    }

    /** The moments before the latest deeds: a ring, in which the newest takes the oldest one's place. */
    private static final class Past {
        private final Moment[] moments = new Moment[MOST_UNDONE];
        private int free = 0;
        private int known = 0;

        private Past() {
            for (int i = 0; i < MOST_UNDONE; i++) {
                moments[i] = new Moment();
            }
        }

        private void remember(Moment moment) {
            moments[free].become(moment);
            free = (free + 1) % MOST_UNDONE;
            known = Math.min(known + 1, MOST_UNDONE);
        }

        private void restore(Moment moment) {
            free = (free + MOST_UNDONE - 1) % MOST_UNDONE;
            known--;
            moment.become(moments[free]);
        }
    }

    /** Finds how many works can be filled. most[c][taken]: by the children from c on, when some works are taken. */
    private static final class Filling {
        private final int[] can = new int[MOST_MOTHERS];
        private final int[][] most = new int[MOST_MOTHERS + 1][1 << MOST_WORKS];
        private int children = 0;
        private int works = 0;

        private int solve() {
            for (int taken = 0; taken < bit(works); taken++) {
                most[children][taken] = 0;
            }
            for (int c = children - 1; c >= 0; c--) {
                for (int taken = 0; taken < bit(works); taken++) {
                    most[c][taken] = mostFrom(c, taken);
                }
            }
            return most[0][0];
        }

        private int mostFrom(int c, int taken) {
            int best = most[c + 1][taken];
            for (int w = 0; w < works; w++) {
                if (isFree(c, w, taken)) {
                    best = Math.max(best, 1 + most[c + 1][taken | bit(w)]);
                }
            }
            return best;
        }

        private boolean isFree(int c, int w, int taken) {
            return has(can[c], w) && !has(taken, w);
        }

        private int workOf(int child) {
            int taken = 0;
            int work = NONE;
            for (int c = 0; c <= child; c++) {
                work = firstWork(c, taken);
                if (work != NONE) {
                    taken |= bit(work);
                }
            }
            return work;
        }

        private int firstWork(int c, int taken) {
            for (int w = 0; w < works; w++) {
                if (isFree(c, w, taken) && 1 + most[c + 1][taken | bit(w)] == most[c][taken]) {
                    return w;
                }
            }
            return NONE;
        }
    }

    /** What was seen of an unknown one. */
    private static final class Seen {
        private final int[] works = new int[MOST_SEEN];
        private final boolean[] could = new boolean[MOST_SEEN];
        private int known = 0;

        private void add(int w, boolean can) {
            works[known] = w;
            could[known] = can;
            known++;
        }

        private boolean allows(Told told, int age) {
            for (int i = 0; i < known; i++) {
                if (told.spans(works[i], age) != could[i]) {
                    return false;
                }
            }
            return true;
        }
    }
}
