import java.math.BigInteger;
import java.util.ArrayDeque;
import java.util.ArrayList;
import java.util.Deque;
import java.util.List;
import java.util.regex.Matcher;
import java.util.regex.Pattern;

/**
 * The document once more, as plainly as can be: whatever is best of several is found by trying
 * all of them. Slow, and sharing nothing with the class but its constants.
 */
final class Model {
    private static final int BAD = KindStreets.BAD, STATE = KindStreets.STATE,
        FULL = KindStreets.FULL, NONE = KindStreets.NONE, NO = KindStreets.NO;

    /** A street or citizen never changes what was told; what changes is in a State. */
    private record Street(int a, int b, int old) {
        boolean has(int yard) {
            return a == yard || b == yard;
        }

        boolean meets(Street t) {
            return t.has(a) || t.has(b);
        }
    }

    private record Citizen(int home, int wants) {
    }

    private record Measure(int width, int night) {
    }

    private static final class State {
        int[] seen, hidden, fake, home;
        int night;

        State copy() {
            State s = new State();
            s.seen = seen.clone();
            s.hidden = hidden.clone();
            s.fake = fake.clone();
            s.home = home.clone();
            s.night = night;
            return s;
        }
    }

    private record Image(State state, List<State> past) {
    }

    private final StringBuilder text = new StringBuilder();
    private int yards = 4;
    private List<Street> streets = new ArrayList<>();
    private List<Citizen> citizens = new ArrayList<>();
    private State state = new State();
    private Deque<State> past = new ArrayDeque<>();
    private Image[] images = new Image[2];
    private final List<Measure> measured = new ArrayList<>();
    private long trace;

    Model() {
        begin();
    }

    private void begin() {
        state.seen = streets.stream().mapToInt(Street::old).toArray();
        state.hidden = new int[streets.size()];
        state.fake = new int[streets.size()];
        state.home = citizens.stream().mapToInt(Citizen::home).toArray();
        state.night = 0;
        past.clear();
        images = new Image[2];
        measured.clear();
    }

    int type(int c) {
        if (c < 0 || c > 255) {
            return BAD;
        }
        if (text.length() == 120) {
            return FULL;
        }
        return text.append((char) c).length();
    }

    int clear() {
        int had = text.length();
        text.setLength(0);
        return had;
    }

    private record Token(String word, int place) {
        boolean isNumber() {
            return word.matches("0|[1-9][0-9]?");
        }

        int number() {
            return isNumber() ? Integer.parseInt(word) : -1;
        }
    }

    private List<Token> tokens() {
        List<Token> tokens = new ArrayList<>();
        Matcher m = Pattern.compile("[a-z]+|[0-9]+|[^ ]", Pattern.DOTALL).matcher(text);
        while (m.find()) {
            tokens.add(new Token(m.group(), m.start()));
        }
        tokens.add(new Token("", text.length()));
        return tokens;
    }

    int town() {
        List<Token> tokens = tokens();
        int newYards = 4;
        List<Street> newStreets = new ArrayList<>();
        List<Citizen> newCitizens = new ArrayList<>();
        int items = 0;
        int at = 0;
        while (!tokens.get(at).word.isEmpty()) {
            String word = tokens.get(at).word;
            int[][] allowed;
            if (word.equals("y") && items == 0) {
                allowed = new int[][] {{2, 8}};
            } else if (word.equals("s") && newStreets.size() < 9) {
                allowed = new int[][] {{0, newYards - 1}, {0, newYards - 1}, {0, 9}};
            } else if (word.equals("c") && newCitizens.size() < 6) {
                allowed = new int[][] {{0, newStreets.size() - 1}, {1, 10}};
            } else {
                return -10 - tokens.get(at).place;
            }
            at++;
            int[] told = new int[allowed.length];
            for (int i = 0; i < allowed.length; i++) {
                Token t = tokens.get(at);
                told[i] = t.number();
                boolean isA = word.equals("s") && i == 1 && told[1] == told[0];
                if (!t.isNumber() || told[i] < allowed[i][0] || told[i] > allowed[i][1] || isA) {
                    return -10 - t.place;
                }
                at++;
            }
            if (!tokens.get(at).word.equals(";")) {
                return -10 - tokens.get(at).place;
            }
            at++;
            items++;
            switch (word) {
                case "y" -> newYards = told[0];
                case "s" -> newStreets.add(new Street(told[0], told[1], told[2]));
                default -> newCitizens.add(new Citizen(told[0], told[1]));
            }
        }
        yards = newYards;
        streets = newStreets;
        citizens = newCitizens;
        text.setLength(0);
        begin();
        return items;
    }

    private boolean noStreet(int s) {
        return s < 0 || s >= streets.size();
    }

    private boolean noCitizen(int p) {
        return p < 0 || p >= citizens.size();
    }

    private boolean noYards(int a, int b) {
        return a < 0 || b < 0 || a >= yards || b >= yards || a == b;
    }

    private int width(int s) {
        return state.night == 0 && state.fake[s] > state.seen[s] ? state.fake[s] + 1 : state.seen[s] + 1;
    }

    int street(int s, int what) {
        if (noStreet(s) || what < 0 || what > 6) {
            return BAD;
        }
        int living = 0;
        for (int p = 0; p < citizens.size(); p++) {
            living += state.home[p] == s ? 1 << p : 0;
        }
        return new int[] {streets.get(s).a, streets.get(s).b, state.seen[s], state.hidden[s],
            state.fake[s], width(s), living}[what];
    }

    private List<Integer> witnesses(int p) {
        List<Integer> all = new ArrayList<>();
        Street here = streets.get(state.home[p]);
        for (int q = 0; q < citizens.size(); q++) {
            if (q != p && here.meets(streets.get(state.home[q]))) {
                all.add(q);
            }
        }
        return all;
    }

    int citizen(int p, int what) {
        if (noCitizen(p) || what < 0 || what > 2) {
            return BAD;
        }
        int bits = 0;
        for (int q : witnesses(p)) {
            bits |= 1 << q;
        }
        return new int[] {state.home[p], citizens.get(p).wants, bits}[what];
    }

    private void known() {
        past.addLast(state.copy());
        if (past.size() > 10) {
            past.removeFirst();
        }
    }

    int does(int p, int much, int kind) {
        if (noCitizen(p) || much < 1 || much > 9 || kind < 0 || kind > 1) {
            return BAD;
        }
        known();
        int s = state.home[p];
        int[] row = null;
        if (witnesses(p).size() > 1) {
            row = kind == 0 ? state.seen : state.fake;
        } else if (kind == 0) {
            row = state.hidden;
        }
        if (row != null && much > row[s]) {
            row[s] = much;
        }
        return width(s);
    }

    int wills(int s) {
        if (noStreet(s)) {
            return BAD;
        }
        if (state.hidden[s] == 0) {
            return STATE;
        }
        known();
        int was = state.hidden[s];
        if (was > state.seen[s]) {
            state.seen[s] = was;
        }
        state.hidden[s] = 0;
        return was;
    }

    int moves(int p, int s) {
        if (noCitizen(p) || noStreet(s)) {
            return BAD;
        }
        if (state.home[p] == s) {
            return STATE;
        }
        known();
        int was = state.home[p];
        state.home[p] = s;
        return was;
    }

    int night(int is) {
        if (is != 0 && is != 1) {
            return BAD;
        }
        if (state.night == is) {
            return STATE;
        }
        known();
        state.night = is;
        return now(1);
    }

    int undo() {
        if (past.isEmpty()) {
            return STATE;
        }
        state = past.removeLast();
        return past.size();
    }

    int now(int what) {
        if (what < 0 || what > 2) {
            return BAD;
        }
        int together = 0;
        int hiding = 0;
        for (int s = 0; s < streets.size(); s++) {
            together += width(s);
            hiding += state.hidden[s] == 0 ? 0 : 1;
        }
        return new int[] {state.night, together, hiding}[what];
    }

    /** All ways from a to b that come to no yard twice, each as the bits of its streets. */
    private void ways(int at, int b, int been, int by, List<Integer> all) {
        if (at == b) {
            all.add(by);
            return;
        }
        for (int s = 0; s < streets.size(); s++) {
            Street t = streets.get(s);
            if (t.has(at)) {
                int next = t.a == at ? t.b : t.a;
                if ((been >> next & 1) == 0) {
                    ways(next, b, been | 1 << next, by | 1 << s, all);
                }
            }
        }
    }

    private List<Integer> ways(int a, int b) {
        List<Integer> all = new ArrayList<>();
        ways(a, b, 1 << a, 0, all);
        return all;
    }

    private int narrowest(int way) {
        int least = 99;
        for (int s = 0; s < streets.size(); s++) {
            if ((way >> s & 1) == 1) {
                least = Math.min(least, width(s));
            }
        }
        return least;
    }

    int widest(int a, int b) {
        if (noYards(a, b)) {
            return BAD;
        }
        return ways(a, b).stream().mapToInt(this::narrowest).max().orElse(NONE);
    }

    int way(int a, int b, int width) {
        if (noYards(a, b) || width < 1 || width > 10) {
            return BAD;
        }
        return ways(a, b).stream().filter(w -> narrowest(w) >= width).mapToInt(Integer::bitCount)
            .min().orElse(NONE);
    }

    private int together(int set) {
        int sum = 0;
        for (int s = 0; s < streets.size(); s++) {
            sum += (set >> s & 1) == 1 ? width(s) : 0;
        }
        return sum;
    }

    int flow(int a, int b, int what) {
        if (noYards(a, b) || what < 0 || what > 1) {
            return BAD;
        }
        List<Integer> ways = ways(a, b);
        int best = -1;
        for (int set = 0; set < 1 << streets.size(); set++) {
            int without = set;
            if (ways.stream().anyMatch(w -> (w & without) == 0)) {
                continue;
            }
            if (best < 0 || together(set) < together(best)
                    || together(set) == together(best) && Integer.bitCount(set) < Integer.bitCount(best)) {
                best = set;
            }
        }
        return what == 0 ? together(best) : best;
    }

    int need(int a, int b, int width) {
        if (noYards(a, b) || width < 1 || width > 10) {
            return BAD;
        }
        int wide = 0;
        for (int s = 0; s < streets.size(); s++) {
            wide |= width(s) >= width ? 1 << s : 0;
        }
        List<Integer> ways = ways(a, b);
        int best = NONE;
        for (int set = 0; set < 1 << streets.size(); set++) {
            int open = wide | set;
            boolean comes = ways.stream().anyMatch(w -> (w & ~open) == 0);
            if (comes && (best == NONE || Integer.bitCount(set) < Integer.bitCount(best))) {
                best = set;
            }
        }
        return best;
    }

    int odds(int a, int b, int x, int what) {
        if (noYards(a, b) || x < 0 || x > 10 || what < 0 || what > 1) {
            return BAD;
        }
        List<Integer> ways = ways(a, b);
        BigInteger upper = BigInteger.ZERO;
        BigInteger lower = BigInteger.TEN.pow(streets.size());
        for (int set = 0; set < 1 << streets.size(); set++) {
            int open = set;
            if (ways.stream().anyMatch(w -> (w & ~open) == 0)) {
                int opens = Integer.bitCount(set);
                upper = upper.add(BigInteger.valueOf(10 - x).pow(opens)
                    .multiply(BigInteger.valueOf(x).pow(streets.size() - opens)));
            }
        }
        BigInteger gcd = upper.gcd(lower);
        return (what == 0 ? upper : lower).divide(gcd).intValueExact();
    }

    /** All ways to give, first ones first; the first of those that give most stays. */
    private int[] give(int p, int[] given, int[] best) {
        if (p == citizens.size()) {
            return best == null || many(given) > many(best) ? given.clone() : best;
        }
        int[] found = best;
        for (int s = 0; s < streets.size(); s++) {
            boolean taken = false;
            for (int q = 0; q < p; q++) {
                taken |= given[q] == s;
            }
            if (!taken && width(s) >= citizens.get(p).wants) {
                given[p] = s;
                found = give(p + 1, given, found);
            }
        }
        given[p] = NONE;
        return give(p + 1, given, found);
    }

    private static int many(int[] given) {
        int many = 0;
        for (int s : given) {
            many += s == NONE ? 0 : 1;
        }
        return many;
    }

    int carriage(int p) {
        if (p != -1 && noCitizen(p)) {
            return BAD;
        }
        int[] given = give(0, new int[citizens.size()], null);
        return p == -1 ? many(given) : given[p];
    }

    int measures(int width, int night) {
        if (width < 1 || width > 10 || night < 0 || night > 1) {
            return BAD;
        }
        if (measured.size() == 4) {
            return FULL;
        }
        measured.add(new Measure(width, night));
        return measured.size();
    }

    int forget() {
        int had = measured.size();
        measured.clear();
        return had;
    }

    private static int wide(int deeds, int night) {
        int seen = deeds / 10;
        int fake = deeds % 10;
        return 1 + (night == 0 && fake > seen ? fake : seen);
    }

    private List<Integer> deeds() {
        List<Integer> all = new ArrayList<>();
        for (int d = 0; d < 100; d++) {
            int deeds = d;
            if (measured.stream().allMatch(m -> wide(deeds, m.night) == m.width)) {
                all.add(d);
            }
        }
        return all;
    }

    int deeds(int what) {
        if (what < 0 || what > 1) {
            return BAD;
        }
        List<Integer> all = deeds();
        return what == 0 ? all.size() : all.isEmpty() ? NONE : all.get(0);
    }

    int when() {
        if (deeds().isEmpty()) {
            return NONE;
        }
        long[] most = new long[2];
        for (int night = 0; night < 2; night++) {
            for (int width = 1; width <= 10; width++) {
                int n = night;
                int w = width;
                most[n] = Math.max(most[n], deeds().stream().filter(d -> wide(d, n) == w).count());
            }
        }
        return most[1] < most[0] ? 1 : 0;
    }

    private class AsStreet {
        int mark(int s) {
            trace += 1;
            return width(s);
        }
    }

    private class AsCross extends AsStreet {
        @Override
        int mark(int s) {
            trace += 10;
            return super.mark(s) + Integer.bitCount(street(s, 6));
        }
    }

    private class AsLane extends AsStreet {
        @Override
        int mark(int s) {
            trace += 100;
            return super.mark(s) - state.hidden[s];
        }
    }

    private class AsBoulevard extends AsCross {
        @Override
        int mark(int s) {
            trace += 1000;
            return super.mark(s) * 2;
        }
    }

    private class AsCourt extends AsLane {
        @Override
        int mark(int s) {
            trace += 10000;
            return super.mark(s) + s;
        }
    }

    private class AsAlley extends AsStreet {
        @Override
        int mark(int s) {
            trace += 100000;
            return super.mark(s) + (int) streets.stream().filter(streets.get(s)::meets).count();
        }
    }

    int mark(int kind, int s) {
        if (kind < 0 || kind > 5 || noStreet(s)) {
            return NO;
        }
        AsStreet[] kinds = {new AsStreet(), new AsCross(), new AsLane(), new AsBoulevard(),
            new AsCourt(), new AsAlley()};
        return kinds[kind].mark(s);
    }

    int keep(int image) {
        if (image != 0 && image != 1) {
            return BAD;
        }
        images[image] = new Image(state.copy(), past.stream().map(State::copy).toList());
        return state.night;
    }

    int back(int image) {
        if (image != 0 && image != 1) {
            return BAD;
        }
        if (images[image] == null) {
            return STATE;
        }
        state = images[image].state.copy();
        past = new ArrayDeque<>();
        images[image].past.forEach(s -> past.addLast(s.copy()));
        return state.night;
    }

    int count(int what) {
        if (what < 0 || what > 5) {
            return BAD;
        }
        return new int[] {yards, streets.size(), citizens.size(), measured.size(), past.size(),
            text.length()}[what];
    }

    long trace() {
        return trace;
    }
}
