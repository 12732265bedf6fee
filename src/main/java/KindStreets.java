import java.util.Arrays;

/**
 * A town in which a street is as wide as the kindest deed that was done in it.
 *
 * Nothing is ever thrown: a call that can't be answered is refused by BAD, STATE or FULL, and
 * changes nothing. Sets of yards, streets and citizens are bits of an int. Every row is made with
 * the object and used again, so that no call makes anything.
 */
public final class KindStreets {
    public static final int BAD = -1, STATE = -2, FULL = -3, NONE = -9;
    /** What none is, where a number may be below 0. */
    public static final int NO = -1000000;

    private static final int LEAST_YARDS = 2, MOST_YARDS = 8, YARDS_AT_FIRST = 4;
    private static final int MOST_STREETS = 9, MOST_CITIZENS = 6;
    private static final int MOST_DEED = 9, MOST_WIDTH = 10;
    private static final int MOST_BYTES = 120, FAULTS_BEGIN = -10;
    private static final int MOST_UNDONE = 10, MOST_MEASURED = 4, IMAGES = 2;
    private static final int DAY = 0, NIGHT = 1;
    private static final int TENTHS = 10, WITNESSES_ENOUGH = 2;

    private static final int KIND_STREET = 0, KIND_CROSS = 1, KIND_LANE = 2, KIND_BOULEVARD = 3,
        KIND_COURT = 4, KIND_ALLEY = 5;

    private final Text text = new Text();
    private final Town draft = new Town();
    private final Town town = new Town();
    private final Now now = new Now();
    private final Now[] images = new Now[] {new Now(), new Now()};
    private int kept; // which images are, as bits
    private final Ways ways = new Ways();
    private final Carriages carriages = new Carriages();
    private final Measures measures = new Measures();
    private long trace;

    public KindStreets() {
    }

    // ---- the town

    public int type(int c) {
        if (!isWithin(c, 0, 255)) {
            return BAD;
        }
        if (text.length >= MOST_BYTES) {
            return FULL;
        }
        text.add(c);
        return text.length;
    }

    public int clear() {
        int had = text.length;
        text.length = 0;
        return had;
    }

    public int town() {
        int items = text.readInto(draft);
        if (items < 0) {
            return items;
        }
        town.become(draft);
        now.begin(town);
        kept = 0;
        measures.measured = 0;
        text.length = 0;
        return items;
    }

    public int street(int s, int what) {
        if (!isStreet(s)) {
            return BAD;
        }
        switch (what) {
            case 0:
                return town.one[s];
            case 1:
                return town.other[s];
            case 2:
                return now.moment.seen[s];
            case 3:
                return now.moment.hidden[s];
            case 4:
                return now.moment.pretended[s];
            case 5:
                return now.moment.widthOf(s);
            case 6:
                return livingIn(s);
            default:
                return BAD;
        }
    }

    public int citizen(int p, int what) {
        if (!isCitizen(p)) {
            return BAD;
        }
        switch (what) {
            case 0:
                return now.moment.home[p];
            case 1:
                return town.wants[p];
            case 2:
                return witnessesOf(p);
            default:
                return BAD;
        }
    }

    // ---- what is done

    public int does(int p, int much, int kind) {
        if (!isCitizen(p) || !isWithin(much, 1, MOST_DEED) || !isWithin(kind, 0, 1)) {
            return BAD;
        }
        now.remember();
        int s = now.moment.home[p];
        boolean isTrue = kind == 0;
        if (Integer.bitCount(witnessesOf(p)) >= WITNESSES_ENOUGH) {
            raise(isTrue ? now.moment.seen : now.moment.pretended, s, much);
        } else if (isTrue) {
            raise(now.moment.hidden, s, much);
        }
        return now.moment.widthOf(s);
    }

    public int wills(int s) {
        if (!isStreet(s)) {
            return BAD;
        }
        int found = now.moment.hidden[s];
        if (found == 0) {
            return STATE;
        }
        now.remember();
        raise(now.moment.seen, s, found);
        now.moment.hidden[s] = 0;
        return found;
    }

    public int moves(int p, int s) {
        if (!isCitizen(p) || !isStreet(s)) {
            return BAD;
        }
        int left = now.moment.home[p];
        if (left == s) {
            return STATE;
        }
        now.remember();
        now.moment.home[p] = s;
        return left;
    }

    public int night(int is) {
        if (!isWithin(is, DAY, NIGHT)) {
            return BAD;
        }
        if (now.moment.night == is) {
            return STATE;
        }
        now.remember();
        now.moment.night = is;
        return widthsTogether();
    }

    public int undo() {
        if (now.known == 0) {
            return STATE;
        }
        now.recall();
        return now.known;
    }

    public int now(int what) {
        switch (what) {
            case 0:
                return now.moment.night;
            case 1:
                return widthsTogether();
            case 2:
                return streetsWithHidden();
            default:
                return BAD;
        }
    }

    // ---- ways

    public int widest(int a, int b) {
        return areUnlikeYards(a, b) ? waysNow().widestWay(a, b) : BAD;
    }

    public int way(int a, int b, int width) {
        if (!areUnlikeYards(a, b) || !isWithin(width, 1, MOST_WIDTH)) {
            return BAD;
        }
        return waysNow().fewestStreets(a, b, width);
    }

    public int flow(int a, int b, int what) {
        if (!areUnlikeYards(a, b) || !isWithin(what, 0, 1)) {
            return BAD;
        }
        int cut = waysNow().leastCut(a, b);
        return what == 0 ? Ways.widthIn(cut) : Ways.streetsIn(cut);
    }

    public int need(int a, int b, int width) {
        if (!areUnlikeYards(a, b) || !isWithin(width, 1, MOST_WIDTH)) {
            return BAD;
        }
        int price = waysNow().leastPrice(a, b, width);
        return price < Ways.FAR ? Ways.streetsIn(price) : NONE;
    }

    public int odds(int a, int b, int x, int what) {
        if (!areUnlikeYards(a, b) || !isWithin(x, 0, TENTHS) || !isWithin(what, 0, 1)) {
            return BAD;
        }
        int lower = Ways.tenTo(town.streets);
        int upper = waysNow().chances(1 << a, Sets.allOf(town.streets), b, x);
        // The lower number is 10 to the streets: 2 and 5 are all that can divide both, at most
        // once a street.
        for (int i = 0; i < town.streets; i++) {
            if (upper % 2 == 0) {
                upper /= 2;
                lower /= 2;
            }
            if (upper % 5 == 0) {
                upper /= 5;
                lower /= 5;
            }
        }
        return what == 0 ? upper : lower;
    }

    public int carriage(int p) {
        if (p != -1 && !isCitizen(p)) {
            return BAD;
        }
        carriages.plan.draw(town, now.moment);
        int many = carriages.give();
        return p == -1 ? many : carriages.given[p];
    }

    // ---- measures

    public int measures(int width, int night) {
        if (!isWithin(width, 1, MOST_WIDTH) || !isWithin(night, DAY, NIGHT)) {
            return BAD;
        }
        if (measures.measured >= MOST_MEASURED) {
            return FULL;
        }
        measures.add(width, night);
        return measures.measured;
    }

    public int forget() {
        int had = measures.measured;
        measures.measured = 0;
        return had;
    }

    public int deeds(int what) {
        switch (what) {
            case 0:
                return measures.manyDeeds();
            case 1:
                return measures.firstDeeds();
            default:
                return BAD;
        }
    }

    public int when() {
        int byDay = measures.mostAlike(DAY);
        if (byDay == 0) {
            return NONE;
        }
        return byDay <= measures.mostAlike(NIGHT) ? DAY : NIGHT;
    }

    // ---- kinds, images

    public int mark(int kind, int s) {
        if (!isStreet(s)) {
            return NO;
        }
        switch (kind) {
            case KIND_STREET:
                return markAsStreet(s);
            case KIND_CROSS:
                return markAsCross(s);
            case KIND_LANE:
                return markAsLane(s);
            case KIND_BOULEVARD:
                return markAsBoulevard(s);
            case KIND_COURT:
                return markAsCourt(s);
            case KIND_ALLEY:
                return markAsAlley(s);
            default:
                return NO;
        }
    }

    public int keep(int image) {
        if (!isWithin(image, 0, IMAGES - 1)) {
            return BAD;
        }
        images[image].become(now);
        kept |= 1 << image;
        return now.moment.night;
    }

    public int back(int image) {
        if (!isWithin(image, 0, IMAGES - 1)) {
            return BAD;
        }
        if (!Sets.has(kept, image)) {
            return STATE;
        }
        now.become(images[image]);
        return now.moment.night;
    }

    public int count(int what) {
        switch (what) {
            case 0:
                return town.yards;
            case 1:
                return town.streets;
            case 2:
                return town.citizens;
            case 3:
                return measures.measured;
            case 4:
                return now.known;
            case 5:
                return text.length;
            default:
                return BAD;
        }
    }

    public long trace() {
        return trace;
    }

    // Each kind asks the one above it: that is its "up".

    private int markAsStreet(int s) {
        trace += 1;
        return now.moment.widthOf(s);
    }

    private int markAsCross(int s) {
        trace += 10;
        return markAsStreet(s) + Integer.bitCount(livingIn(s));
    }

    private int markAsLane(int s) {
        trace += 100;
        return markAsStreet(s) - now.moment.hidden[s];
    }

    private int markAsBoulevard(int s) {
        trace += 1000;
        return markAsCross(s) * 2;
    }

    private int markAsCourt(int s) {
        trace += 10000;
        return markAsLane(s) + s;
    }

    private int markAsAlley(int s) {
        trace += 100000;
        return markAsStreet(s) + Integer.bitCount(streetsAt(s));
    }

    private static boolean isWithin(int n, int least, int most) {
        return n >= least && n <= most;
    }

    private boolean isStreet(int s) {
        return isWithin(s, 0, town.streets - 1);
    }

    private boolean isCitizen(int p) {
        return isWithin(p, 0, town.citizens - 1);
    }

    private boolean areUnlikeYards(int a, int b) {
        return isWithin(a, 0, town.yards - 1) && isWithin(b, 0, town.yards - 1) && a != b;
    }

    private Ways waysNow() {
        ways.plan.draw(town, now.moment);
        return ways;
    }

    private static void raise(int[] row, int s, int much) {
        row[s] = Math.max(row[s], much);
    }

    /** The streets that have a yard of this one, itself too. */
    private int streetsAt(int s) {
        int streets = 0;
        for (int t = 0; t < town.streets; t++) {
            if ((town.endsOf(s) & town.endsOf(t)) != 0) {
                streets |= 1 << t;
            }
        }
        return streets;
    }

    private int livingIn(int s) {
        return livingInAny(1 << s);
    }

    private int livingInAny(int streets) {
        int living = 0;
        for (int p = 0; p < town.citizens; p++) {
            if (Sets.has(streets, now.moment.home[p])) {
                living |= 1 << p;
            }
        }
        return living;
    }

    private int witnessesOf(int p) {
        return Sets.without(livingInAny(streetsAt(now.moment.home[p])), p);
    }

    private int widthsTogether() {
        int together = 0;
        for (int s = 0; s < town.streets; s++) {
            together += now.moment.widthOf(s);
        }
        return together;
    }

    private int streetsWithHidden() {
        int many = 0;
        for (int s = 0; s < town.streets; s++) {
            if (now.moment.hidden[s] > 0) {
                many++;
            }
        }
        return many;
    }

    /** Sets of small numbers, as bits. */
    private static final class Sets {
        static boolean has(int set, int member) {
            return (set >> member & 1) == 1;
        }

        static int without(int set, int member) {
            return set & ~(1 << member);
        }

        static int allOf(int many) {
            return (1 << many) - 1;
        }
    }

    /** What a text tells: what no deed changes, and where all begins. */
    private static class Town {
        int yards = YARDS_AT_FIRST;
        int streets;
        int citizens;
        final int[] one = new int[MOST_STREETS];
        final int[] other = new int[MOST_STREETS];
        final int[] old = new int[MOST_STREETS];
        final int[] home = new int[MOST_CITIZENS];
        final int[] wants = new int[MOST_CITIZENS];

        Town() {
        }

        void begin() {
            yards = YARDS_AT_FIRST;
            streets = 0;
            citizens = 0;
        }

        void become(Town model) {
            yards = model.yards;
            streets = model.streets;
            citizens = model.citizens;
            System.arraycopy(model.one, 0, one, 0, MOST_STREETS);
            System.arraycopy(model.other, 0, other, 0, MOST_STREETS);
            System.arraycopy(model.old, 0, old, 0, MOST_STREETS);
            System.arraycopy(model.home, 0, home, 0, MOST_CITIZENS);
            System.arraycopy(model.wants, 0, wants, 0, MOST_CITIZENS);
        }

        int endsOf(int s) {
            return 1 << one[s] | 1 << other[s];
        }
    }

    /** THE TEXT, and its reading: whatever can't be read leaves the place at the fault. */
    private static final class Text {
        private static final int CANT = -1;

        private final int[] bytes = new int[MOST_BYTES];
        private int place;
        int length;

        Text() {
        }

        void add(int c) {
            if (length < MOST_BYTES) {
                bytes[length] = c;
                length++;
            }
        }

        /** How many items there are; if there is a fault, -10 less its place. */
        int readInto(Town told) {
            told.begin();
            place = 0;
            for (int items = 0; items < MOST_BYTES; items++) {
                skipBlanks();
                if (place >= length) {
                    return items;
                }
                if (!readItem(told, items == 0) || !readEnd()) {
                    return FAULTS_BEGIN - place;
                }
            }
            return FAULTS_BEGIN - place;
        }

        private boolean readItem(Town told, boolean isFirst) {
            int letter = loneLetter();
            if (letter == 'y' && isFirst) {
                place++;
                return readYards(told);
            }
            if (letter == 's' && told.streets < MOST_STREETS) {
                place++;
                return readStreet(told);
            }
            if (letter == 'c' && told.citizens < MOST_CITIZENS) {
                place++;
                return readCitizen(told);
            }
            return false;
        }

        private boolean readYards(Town told) {
            int yards = readNumber(LEAST_YARDS, MOST_YARDS, CANT);
            if (yards == CANT) {
                return false;
            }
            told.yards = yards;
            return true;
        }

        private boolean readStreet(Town told) {
            int one = readNumber(0, told.yards - 1, CANT);
            if (one == CANT) {
                return false;
            }
            int other = readNumber(0, told.yards - 1, one);
            if (other == CANT) {
                return false;
            }
            int old = readNumber(0, MOST_DEED, CANT);
            if (old == CANT) {
                return false;
            }
            told.one[told.streets] = one;
            told.other[told.streets] = other;
            told.old[told.streets] = old;
            told.streets++;
            return true;
        }

        private boolean readCitizen(Town told) {
            int home = readNumber(0, told.streets - 1, CANT);
            if (home == CANT) {
                return false;
            }
            int wants = readNumber(1, MOST_WIDTH, CANT);
            if (wants == CANT) {
                return false;
            }
            told.home[told.citizens] = home;
            told.wants[told.citizens] = wants;
            told.citizens++;
            return true;
        }

        private boolean readEnd() {
            skipBlanks();
            if (byteAt(place) != ';') {
                return false;
            }
            place++;
            return true;
        }

        /** The number that comes next, CANT if none does that may stand there. */
        private int readNumber(int least, int most, int barred) {
            skipBlanks();
            int digits = digitsHere();
            int number = numberOf(digits);
            if (number < least || number > most || number == barred) {
                return CANT;
            }
            place += digits;
            return number;
        }

        private int digitsHere() {
            int digits = 0;
            while (digits < MOST_BYTES && isDigit(byteAt(place + digits))) {
                digits++;
            }
            return digits;
        }

        /** Of so many digits from the place on; two at most, so above 99 is none. */
        private int numberOf(int digits) {
            if (digits == 1) {
                return byteAt(place) - '0';
            }
            if (digits == 2 && byteAt(place) != '0') {
                return 10 * (byteAt(place) - '0') + byteAt(place + 1) - '0';
            }
            return CANT;
        }

        /** The letter that stands here if no other one is at its side, else CANT. */
        private int loneLetter() {
            return isLetter(byteAt(place + 1)) ? CANT : byteAt(place);
        }

        private void skipBlanks() {
            while (place < length && byteAt(place) == ' ') {
                place++;
            }
        }

        private int byteAt(int at) {
            return at >= 0 && at < length && at < MOST_BYTES ? bytes[at] : CANT;
        }

        private static boolean isDigit(int c) {
            return c >= '0' && c <= '9';
        }

        private static boolean isLetter(int c) {
            return c >= 'a' && c <= 'z';
        }
    }

    /** How all stands at one time. */
    private static final class Moment {
        final int[] seen = new int[MOST_STREETS];
        final int[] hidden = new int[MOST_STREETS];
        final int[] pretended = new int[MOST_STREETS];
        final int[] home = new int[MOST_CITIZENS];
        int night;

        Moment() {
        }

        void begin(Town town) {
            System.arraycopy(town.old, 0, seen, 0, MOST_STREETS);
            Arrays.fill(hidden, 0);
            Arrays.fill(pretended, 0);
            System.arraycopy(town.home, 0, home, 0, MOST_CITIZENS);
            night = DAY;
        }

        void become(Moment model) {
            System.arraycopy(model.seen, 0, seen, 0, MOST_STREETS);
            System.arraycopy(model.hidden, 0, hidden, 0, MOST_STREETS);
            System.arraycopy(model.pretended, 0, pretended, 0, MOST_STREETS);
            System.arraycopy(model.home, 0, home, 0, MOST_CITIZENS);
            night = model.night;
        }

        int widthOf(int s) {
            return widthBy(seen[s], pretended[s], night);
        }

        static int widthBy(int seen, int pretended, int night) {
            return 1 + (night == NIGHT ? seen : Math.max(seen, pretended));
        }
    }

    /** NOW: how all stands, and the moments, oldest first, that may come back by undoing. */
    private static final class Now {
        final Moment moment = new Moment();
        private final Moment[] past = new Moment[MOST_UNDONE];
        int known;

        Now() {
            for (int i = 0; i < MOST_UNDONE; i++) {
                past[i] = new Moment();
            }
        }

        void begin(Town town) {
            moment.begin(town);
            known = 0;
        }

        void become(Now model) {
            moment.become(model.moment);
            for (int i = 0; i < MOST_UNDONE; i++) {
                past[i].become(model.past[i]);
            }
            known = model.known;
        }

        void remember() {
            if (known >= MOST_UNDONE) {
                loseOldest();
            }
            past[known].become(moment);
            known++;
        }

        void recall() {
            if (known > 0) {
                known--;
                moment.become(past[known]);
            }
        }

        /** Its row goes to the end, to be used again. */
        private void loseOldest() {
            Moment oldest = past[0];
            for (int i = 1; i < MOST_UNDONE; i++) {
                past[i - 1] = past[i];
            }
            past[MOST_UNDONE - 1] = oldest;
            known = MOST_UNDONE - 1;
        }
    }

    /** The town with the widths that its streets have, drawn anew for each question. */
    private static final class Plan extends Town {
        final int[] width = new int[MOST_STREETS];

        Plan() {
        }

        void draw(Town town, Moment moment) {
            become(town);
            for (int s = 0; s < town.streets; s++) {
                width[s] = moment.widthOf(s);
            }
        }

        boolean leadsOut(int s, int side) {
            return Sets.has(side, one[s]) != Sets.has(side, other[s]);
        }
    }

    /** Ways from one yard to another. */
    private static final class Ways {
        static final int FAR = 1 << 30;
        // A set of streets as one number that grows first with its width, then with how many
        // they are, then with their bits: the least number is the set that is asked for.
        private static final int ONE_STREET = 1 << MOST_STREETS;
        private static final int ONE_WIDTH = ONE_STREET << 4;

        final Plan plan = new Plan();
        private final int[] price = new int[MOST_YARDS];

        Ways() {
        }

        static int widthIn(int set) {
            return set / ONE_WIDTH;
        }

        static int streetsIn(int set) {
            return set % ONE_STREET;
        }

        static int tenTo(int power) {
            int ten = 1;
            for (int i = 0; i < power && i < MOST_STREETS; i++) {
                ten *= TENTHS;
            }
            return ten;
        }

        int widestWay(int a, int b) {
            for (int width = MOST_WIDTH; width >= 1; width--) {
                if (fewestStreets(a, b, width) != NONE) {
                    return width;
                }
            }
            return NONE;
        }

        int fewestStreets(int a, int b, int width) {
            int reached = 1 << a;
            for (int streets = 1; streets < plan.yards; streets++) {
                reached = oneStreetOn(reached, width);
                if (Sets.has(reached, b)) {
                    return streets;
                }
            }
            return NONE;
        }

        private int oneStreetOn(int reached, int width) {
            int on = reached;
            for (int s = 0; s < plan.streets; s++) {
                if (plan.width[s] >= width && (reached & plan.endsOf(s)) != 0) {
                    on |= plan.endsOf(s);
                }
            }
            return on;
        }

        /** No street is 0 wide, so the least set is all that leads from some side to the other. */
        int leastCut(int a, int b) {
            int least = FAR;
            for (int side = 0; side <= Sets.allOf(plan.yards); side++) {
                if (Sets.has(side, a) && !Sets.has(side, b)) {
                    least = Math.min(least, cutAround(side));
                }
            }
            return least;
        }

        private int cutAround(int side) {
            int cut = 0;
            for (int s = 0; s < plan.streets; s++) {
                if (plan.leadsOut(s, side)) {
                    cut += plan.width[s] * ONE_WIDTH + ONE_STREET + (1 << s);
                }
            }
            return cut;
        }

        /** Of the set of streets that must become wider; FAR if there is no way at all. */
        int leastPrice(int a, int b, int width) {
            Arrays.fill(price, FAR);
            price[a] = 0;
            for (int round = 1; round < plan.yards; round++) {
                for (int s = 0; s < plan.streets; s++) {
                    goBothWays(s, plan.width[s] >= width ? 0 : ONE_STREET + (1 << s));
                }
            }
            return price[b];
        }

        private void goBothWays(int s, int more) {
            int one = plan.one[s];
            int other = plan.other[s];
            price[one] = Math.min(price[one], price[other] + more);
            price[other] = Math.min(price[other], price[one] + more);
        }

        /**
         * In how many of 10 to the unsure streets cases one comes from what is reached to b.
         * Each level makes one street sure, so there are no more levels than streets.
         */
        int chances(int reached, int unsure, int b, int shut) {
            if (Sets.has(reached, b)) {
                return tenTo(Integer.bitCount(unsure));
            }
            int s = streetOut(reached, unsure);
            if (s == NONE) {
                return 0;
            }
            int still = Sets.without(unsure, s);
            return (TENTHS - shut) * chances(reached | plan.endsOf(s), still, b, shut)
                + shut * chances(reached, still, b, shut);
        }

        private int streetOut(int reached, int streets) {
            for (int s = 0; s < plan.streets; s++) {
                if (Sets.has(streets, s) && plan.leadsOut(s, reached)) {
                    return s;
                }
            }
            return NONE;
        }
    }

    /** Who is given which street for his carriage. */
    private static final class Carriages {
        final int[] given = new int[MOST_CITIZENS];
        final Plan plan = new Plan();

        Carriages() {
        }

        /** Gives to as many as can be, the lowest streets to the first: how many they are. */
        int give() {
            int free = Sets.allOf(plan.streets);
            int many = mostFrom(0, free);
            int due = many;
            for (int p = 0; p < plan.citizens; p++) {
                given[p] = lowestStreetFor(p, free, due);
                if (given[p] != NONE) {
                    free = Sets.without(free, given[p]);
                    due--;
                }
            }
            return many;
        }

        /** The lowest street with which as many as are due are still given one. */
        private int lowestStreetFor(int p, int free, int due) {
            for (int s = 0; s < plan.streets; s++) {
                if (Sets.has(free, s) && plan.width[s] >= plan.wants[p]
                        && 1 + mostFrom(p + 1, Sets.without(free, s)) == due) {
                    return s;
                }
            }
            return NONE;
        }

        /** A street serves anyone who wants no more, so the narrowest ones are best given first. */
        private int mostFrom(int p, int free) {
            int most = 0;
            int waiting = 0;
            for (int width = 1; width <= MOST_WIDTH; width++) {
                waiting += wantingFrom(p, width);
                int served = Math.min(waiting, freeOf(free, width));
                most += served;
                waiting -= served;
            }
            return most;
        }

        private int wantingFrom(int first, int width) {
            int many = 0;
            for (int p = first; p < plan.citizens; p++) {
                if (plan.wants[p] == width) {
                    many++;
                }
            }
            return many;
        }

        private int freeOf(int free, int width) {
            int many = 0;
            for (int s = 0; s < plan.streets; s++) {
                if (Sets.has(free, s) && plan.width[s] == width) {
                    many++;
                }
            }
            return many;
        }
    }

    /** What was measured of an unknown street, and the deeds by which it is so. */
    private static final class Measures {
        // Two deeds are one number, as they are answered: 10 times SEEN and FALSE.
        private static final int SEEN_ONE = 10, ALL_DEEDS = 100;

        private final int[] width = new int[MOST_MEASURED];
        private final int[] night = new int[MOST_MEASURED];
        int measured;
        private final int[] alike = new int[MOST_WIDTH + 1];

        Measures() {
        }

        void add(int wide, int at) {
            if (measured < MOST_MEASURED) {
                width[measured] = wide;
                night[measured] = at;
                measured++;
            }
        }

        int manyDeeds() {
            int many = 0;
            for (int deeds = 0; deeds < ALL_DEEDS; deeds++) {
                if (areSo(deeds)) {
                    many++;
                }
            }
            return many;
        }

        int firstDeeds() {
            for (int deeds = 0; deeds < ALL_DEEDS; deeds++) {
                if (areSo(deeds)) {
                    return deeds;
                }
            }
            return NONE;
        }

        /** Of deeds by which the street is as wide by day, by night: how many at most; 0: none. */
        int mostAlike(int at) {
            Arrays.fill(alike, 0);
            int most = 0;
            for (int deeds = 0; deeds < ALL_DEEDS; deeds++) {
                if (areSo(deeds)) {
                    int wide = widthBy(deeds, at);
                    alike[wide]++;
                    most = Math.max(most, alike[wide]);
                }
            }
            return most;
        }

        private boolean areSo(int deeds) {
            for (int i = 0; i < measured; i++) {
                if (widthBy(deeds, night[i]) != width[i]) {
                    return false;
                }
            }
            return true;
        }

        private static int widthBy(int deeds, int at) {
            return Moment.widthBy(deeds / SEEN_ONE, deeds % SEEN_ONE, at);
        }
    }
}
