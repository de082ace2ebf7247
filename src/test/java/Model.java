import java.math.BigInteger;
import java.util.ArrayDeque;
import java.util.ArrayList;
import java.util.Arrays;
import java.util.HashMap;
import java.util.List;
import java.util.Map;
import java.util.regex.Matcher;
import java.util.regex.Pattern;

/**
 * The document once more, in its most literal and slowest form (all sets, all orders, breadth-first search),
 * written apart from the class so that random runs of calls can compare the two.
 */
final class Model {
    static final int BAD = -1, STATE = -2, FULL = -3, NONE = -9, NO = -1000000;

    record Limb(int parent, int bone, int weight) { }

    record Beat(int lift, int tilt) { }

    static final class Str {
        int limb, hole, length, strength;
        boolean cut;

        Str copy() {
            Str s = new Str();
            s.limb = limb;
            s.hole = hole;
            s.length = length;
            s.strength = strength;
            s.cut = cut;
            return s;
        }
    }

    static final class State {
        int lift = 20, tilt = 0;
        List<Str> strings = new ArrayList<>();

        State copy() {
            State s = new State();
            s.lift = lift;
            s.tilt = tilt;
            for (Str t : strings) {
                s.strings.add(t.copy());
            }
            return s;
        }
    }

    record Image(State state, List<State> past) { }

    private StringBuilder text = new StringBuilder();
    private List<Limb> limbs = new ArrayList<>();
    private List<Beat> beats = new ArrayList<>();
    private State state = new State();
    private List<State> past = new ArrayList<>();
    private List<int[]> seen = new ArrayList<>();
    private Image[] images = new Image[2];
    private long trace;

    // ---- reading

    private static final class Fault extends RuntimeException {
        private static final long serialVersionUID = 1L;
        final int place;

        Fault(int place) {
            this.place = place;
        }
    }

    private record Token(String text, int place, boolean good) { }

    private static List<Token> tokens(String text) {
        List<Token> all = new ArrayList<>();
        Matcher m = Pattern.compile(" +|[a-z]+|[0-9]+|;|.", Pattern.DOTALL).matcher(text);
        while (m.find()) {
            String t = m.group();
            if (!t.startsWith(" ")) {
                all.add(new Token(t, m.start(), t.matches("[a-z]+|0|[1-9][0-9]?|;")));
            }
        }
        return all;
    }

    private static final class Reading {
        final List<Token> tokens;
        final int length;
        int at;
        final List<Limb> limbs = new ArrayList<>();
        final List<Beat> beats = new ArrayList<>();
        final State state = new State();
        boolean u, t;
        int items;

        Reading(String text) {
            tokens = tokens(text);
            length = text.length();
            while (at < tokens.size()) {
                item();
                items++;
            }
        }

        Token next() {
            if (at >= tokens.size()) {
                throw new Fault(length);
            }
            Token t = tokens.get(at++);
            if (!t.good) {
                throw new Fault(t.place);
            }
            return t;
        }

        int number(int low, int high) {
            Token t = next();
            if (!Character.isDigit(t.text.charAt(0))) {
                throw new Fault(t.place);
            }
            int n = Integer.parseInt(t.text);
            if (n < low || n > high) {
                throw new Fault(t.place);
            }
            return n;
        }

        void semicolon() {
            Token t = next();
            if (!t.text.equals(";")) {
                throw new Fault(t.place);
            }
        }

        void item() {
            Token head = next();
            if (head.text.equals("l") && limbs.size() < 8) {
                boolean first = limbs.isEmpty();
                int p = number(0, first ? 0 : limbs.size() - 1);
                int b = first ? number(0, 0) : number(1, 9);
                int w = number(1, 9);
                semicolon();
                limbs.add(new Limb(p, b, w));
            } else if (head.text.equals("s") && state.strings.size() < 6) {
                Str s = new Str();
                s.limb = number(0, limbs.size() - 1);
                s.hole = number(0, 6);
                s.length = number(0, 40);
                s.strength = number(1, 40);
                semicolon();
                state.strings.add(s);
            } else if (head.text.equals("b") && beats.size() < 7) {
                int n = number(0, 40);
                int t = number(0, 6);
                semicolon();
                beats.add(new Beat(n, t - 3));
            } else if (head.text.equals("u") && !u) {
                state.lift = number(0, 40);
                u = true;
                semicolon();
            } else if (head.text.equals("t") && !t) {
                state.tilt = number(0, 6) - 3;
                t = true;
                semicolon();
            } else {
                throw new Fault(head.place);
            }
        }
    }

    int type(int c) {
        if (c < 0 || c > 255) {
            return BAD;
        }
        if (text.length() == 170) {
            return FULL;
        }
        text.append((char) c);
        return text.length();
    }

    int clear() {
        int n = text.length();
        text.setLength(0);
        return n;
    }

    int puppet() {
        Reading r;
        try {
            r = new Reading(text.toString());
        } catch (Fault f) {
            return -10 - f.place;
        }
        text.setLength(0);
        limbs = r.limbs;
        beats = r.beats;
        state = r.state;
        past = new ArrayList<>();
        seen = new ArrayList<>();
        images = new Image[2];
        return r.items;
    }

    // ---- how it hangs

    private int farOf(int l, int k) {
        Map<Integer, Integer> up = new HashMap<>();
        int d = 0;
        for (int a = l; ; a = limbs.get(a).parent) {
            up.put(a, d);
            if (a == 0) {
                break;
            }
            d += limbs.get(a).bone;
        }
        int e = 0;
        for (int a = k; ; a = limbs.get(a).parent) {
            if (up.containsKey(a)) {
                return e + up.get(a);
            }
            e += limbs.get(a).bone;
        }
    }

    private static int endOf(State st, int s) {
        Str t = st.strings.get(s);
        return st.lift + st.tilt * (t.hole - 3) - t.length;
    }

    private int heightOf(State st, int l) {
        int h = 0;
        for (int s = 0; s < st.strings.size(); s++) {
            if (!st.strings.get(s).cut) {
                h = Math.max(h, endOf(st, s) - farOf(st.strings.get(s).limb, l));
            }
        }
        return h;
    }

    private int[] heights(State st) {
        int[] h = new int[limbs.size()];
        for (int l = 0; l < h.length; l++) {
            h[l] = heightOf(st, l);
        }
        return h;
    }

    private int bearerOf(State st, int l) {
        int h = heightOf(st, l);
        if (h == 0) {
            return NONE;
        }
        for (int s = 0; ; s++) {
            Str t = st.strings.get(s);
            if (!t.cut && endOf(st, s) - farOf(t.limb, l) == h) {
                return s;
            }
        }
    }

    private int loadOf(State st, int s) {
        int sum = 0;
        for (int l = 0; l < limbs.size(); l++) {
            sum += bearerOf(st, l) == s ? limbs.get(l).weight : 0;
        }
        return sum;
    }

    private boolean tautIn(State st, int s) {
        Str t = st.strings.get(s);
        return !t.cut && endOf(st, s) > 0 && heightOf(st, t.limb) == endOf(st, s);
    }

    private int ground(State st) {
        int bits = 0;
        for (int l = 0; l < limbs.size(); l++) {
            bits |= heightOf(st, l) == 0 ? 1 << l : 0;
        }
        return bits;
    }

    /** For the tests alone: which limbs another place of the bar would have on the ground. */
    int groundAt(int lift, int tilt) {
        State st = state.copy();
        st.lift = lift;
        st.tilt = tilt;
        return ground(st);
    }

    private boolean limbIs(int l) {
        return l >= 0 && l < limbs.size();
    }

    private boolean stringIs(int s) {
        return s >= 0 && s < state.strings.size();
    }

    private boolean beatIs(int b) {
        return b >= 0 && b < beats.size();
    }

    private State withCut(int bits) {
        State st = state.copy();
        for (int s = 0; s < st.strings.size(); s++) {
            if ((bits >> s & 1) == 1) {
                st.strings.get(s).cut = true;
            }
        }
        return st;
    }

    private State atBeat(int b) {
        State st = state.copy();
        st.lift = beats.get(b).lift;
        st.tilt = beats.get(b).tilt;
        return st;
    }

    private int wholeOnes() {
        int bits = 0;
        for (int s = 0; s < state.strings.size(); s++) {
            bits |= state.strings.get(s).cut ? 0 : 1 << s;
        }
        return bits;
    }

    // ---- the puppet

    int limb(int l, int what) {
        if (!limbIs(l) || what < 0 || what > 4) {
            return BAD;
        }
        Limb m = limbs.get(l);
        int[] answers = {l == 0 ? NONE : m.parent, m.bone, m.weight, heightOf(state, l), bearerOf(state, l)};
        return answers[what];
    }

    int string(int s, int what) {
        if (!stringIs(s) || what < 0 || what > 7) {
            return NO;
        }
        Str t = state.strings.get(s);
        int[] answers = {t.limb, t.hole, t.length, t.strength, endOf(state, s), tautIn(state, s) ? 1 : 0,
            loadOf(state, s), t.cut ? 1 : 0};
        return answers[what];
    }

    int beat(int b, int what) {
        if (!beatIs(b) || what < 0 || what > 1) {
            return NO;
        }
        return what == 0 ? beats.get(b).lift : beats.get(b).tilt;
    }

    int far(int l, int k) {
        return limbIs(l) && limbIs(k) ? farOf(l, k) : BAD;
    }

    // ---- what is done

    private void step() {
        past.add(state.copy());
        if (past.size() > 10) {
            past.remove(0);
        }
    }

    int lifts(int n) {
        if (n == 0 || Math.abs((long) n) > 5) {
            return BAD;
        }
        if (state.lift + n < 0 || state.lift + n > 40) {
            return STATE;
        }
        step();
        state.lift += n;
        return state.lift;
    }

    int tilts(int n) {
        if (Math.abs((long) n) > 3 || n == state.tilt) {
            return NO;
        }
        step();
        int was = state.tilt;
        state.tilt = n;
        return was;
    }

    int cuts(int s) {
        if (!stringIs(s)) {
            return BAD;
        }
        if (state.strings.get(s).cut) {
            return STATE;
        }
        step();
        state.strings.get(s).cut = true;
        return Integer.bitCount(ground(state));
    }

    int ties(int s, int l, int length) {
        if (!stringIs(s) || !limbIs(l) || length < 0 || length > 40) {
            return BAD;
        }
        Str t = state.strings.get(s);
        if (!t.cut) {
            return STATE;
        }
        step();
        t.cut = false;
        t.limb = l;
        t.length = length;
        return Integer.bitCount(ground(state));
    }

    int hangs(int s, int hole) {
        if (!stringIs(s) || hole < 0 || hole > 6) {
            return BAD;
        }
        Str t = state.strings.get(s);
        int was = t.hole;
        if (was == hole) {
            return STATE;
        }
        step();
        t.hole = hole;
        return was;
    }

    int holds() {
        step();
        int n = 0;
        while (true) {
            int best = -1;
            for (int s = 0; s < state.strings.size(); s++) {
                int over = loadOf(state, s) - state.strings.get(s).strength;
                if (over > 0 && (best < 0 || over > loadOf(state, best) - state.strings.get(best).strength)) {
                    best = s;
                }
            }
            if (best < 0) {
                return n;
            }
            state.strings.get(best).cut = true;
            n++;
        }
    }

    int beats(int b) {
        if (!beatIs(b)) {
            return BAD;
        }
        step();
        state = atBeat(b);
        return Integer.bitCount(ground(state));
    }

    int undo() {
        if (past.isEmpty()) {
            return STATE;
        }
        state = past.remove(past.size() - 1);
        return past.size();
    }

    int now(int what) {
        int taut = 0;
        int crossed = 0;
        for (int s = 0; s < state.strings.size(); s++) {
            taut |= tautIn(state, s) ? 1 << s : 0;
            for (int t = s + 1; t < state.strings.size(); t++) {
                Str a = state.strings.get(s);
                Str b = state.strings.get(t);
                crossed += !a.cut && !b.cut && (a.hole - b.hole) * (a.limb - b.limb) < 0 ? 1 : 0;
            }
        }
        switch (what) {
            case 0: return state.lift;
            case 1: return state.tilt;
            case 2: return (1 << state.strings.size()) - 1 - wholeOnes();
            case 3: return ground(state);
            case 4: return taut;
            case 5: return Arrays.stream(heights(state)).sum();
            case 6: return need();
            case 7: return crossed;
            default: return NO;
        }
    }

    private int need() {
        int whole = wholeOnes();
        int[] as = heights(state);
        for (int n = 0; n <= 6; n++) {
            for (int set = 0; set < 64; set++) {
                if ((set & ~whole) == 0 && Integer.bitCount(set) == n
                        && Arrays.equals(as, heights(withCut(whole & ~set)))) {
                    return set;
                }
            }
        }
        throw new IllegalStateException();
    }

    // ---- what could be

    int reach(int set, int what) {
        if (set < 0 || set >= 1 << limbs.size() || what < 0 || what > 2) {
            return NO;
        }
        Map<Integer, Integer> steps = new HashMap<>();
        ArrayDeque<Integer> queue = new ArrayDeque<>();
        int start = state.lift * 7 + state.tilt + 3;
        steps.put(start, 0);
        queue.add(start);
        while (!queue.isEmpty()) {
            int at = queue.remove();
            int lift = at / 7;
            int tilt = at % 7;
            int[][] around = {{lift - 1, tilt}, {lift + 1, tilt}, {lift, tilt - 1}, {lift, tilt + 1}};
            for (int[] n : around) {
                int to = n[0] * 7 + n[1];
                boolean within = n[0] >= 0 && n[0] <= 40 && n[1] >= 0 && n[1] <= 6;
                if (within && !steps.containsKey(to)) {
                    steps.put(to, steps.get(at) + 1);
                    queue.add(to);
                }
            }
        }
        int[] best = null;
        for (int at = 0; at < 41 * 7; at++) {
            State st = state.copy();
            st.lift = at / 7;
            st.tilt = at % 7 - 3;
            if (ground(st) == set && (best == null || steps.get(at) < best[0])) {
                best = new int[] {steps.get(at), st.lift, st.tilt};
            }
        }
        return best == null ? NONE : best[what];
    }

    int fell(int l) {
        if (!limbIs(l)) {
            return BAD;
        }
        int whole = wholeOnes();
        for (int n = 0; n <= 6; n++) {
            for (int set = 0; set < 64; set++) {
                if ((set & ~whole) == 0 && Integer.bitCount(set) == n && heightOf(withCut(set), l) == 0) {
                    return set;
                }
            }
        }
        throw new IllegalStateException();
    }

    int path(int l, int b) {
        return limbIs(l) && beatIs(b) ? heightOf(atBeat(b), l) : BAD;
    }

    int nods(int l) {
        if (!limbIs(l)) {
            return BAD;
        }
        int n = 0;
        for (int b = 1; b + 1 < beats.size(); b++) {
            n += path(l, b) < Math.min(path(l, b - 1), path(l, b + 1)) ? 1 : 0;
        }
        return n;
    }

    private List<Integer> bestOrder;
    private int bestMoves;

    private void orders(List<Integer> order, int moves, int lift, int tilt) {
        if (order.size() == beats.size()) {
            if (bestOrder == null || moves < bestMoves) {
                bestOrder = new ArrayList<>(order);
                bestMoves = moves;
            }
            return;
        }
        for (int b = 0; b < beats.size(); b++) {
            if (!order.contains(b)) {
                Beat t = beats.get(b);
                order.add(b);
                orders(order, moves + Math.abs(t.lift - lift) + Math.abs(t.tilt - tilt), t.lift, t.tilt);
                order.remove(order.size() - 1);
            }
        }
    }

    int play(int i) {
        if (i < -1 || i > 6) {
            return BAD;
        }
        bestOrder = null;
        orders(new ArrayList<>(), 0, state.lift, state.tilt);
        if (i == -1) {
            return bestMoves;
        }
        return i < bestOrder.size() ? bestOrder.get(i) : NONE;
    }

    int odds(int l, int x, int what) {
        if (!limbIs(l) || x < 0 || x > 10 || what < 0 || what > 1) {
            return BAD;
        }
        int whole = wholeOnes();
        BigInteger upper = BigInteger.ZERO;
        for (int broken = 0; broken < 64; broken++) {
            if ((broken & ~whole) == 0 && heightOf(withCut(broken), l) == 0) {
                int b = Integer.bitCount(broken);
                upper = upper.add(BigInteger.valueOf(x).pow(b)
                    .multiply(BigInteger.valueOf(10 - x).pow(Integer.bitCount(whole) - b)));
            }
        }
        BigInteger lower = BigInteger.TEN.pow(Integer.bitCount(whole));
        BigInteger shared = upper.gcd(lower);
        return (what == 0 ? upper : lower).divide(shared).intValueExact();
    }

    // ---- what was seen

    int saw(int l, int height) {
        if (!limbIs(l) || height < 0 || height > 49) {
            return BAD;
        }
        if (seen.size() == 6) {
            return FULL;
        }
        seen.add(new int[] {l, height});
        return seen.size();
    }

    int forget() {
        int n = seen.size();
        seen.clear();
        return n;
    }

    private boolean fits(State st) {
        return seen.stream().allMatch(v -> heightOf(st, v[0]) == v[1]);
    }

    int suspects() {
        int bits = fits(state) ? 64 : 0;
        for (int s = 0; s < state.strings.size(); s++) {
            bits |= !state.strings.get(s).cut && fits(withCut(1 << s)) ? 1 << s : 0;
        }
        return bits;
    }

    int holes(int s) {
        if (!stringIs(s)) {
            return BAD;
        }
        if (state.strings.get(s).cut) {
            return STATE;
        }
        int bits = 0;
        for (int h = 0; h <= 6; h++) {
            State st = state.copy();
            st.strings.get(s).hole = h;
            bits |= fits(st) ? 1 << h : 0;
        }
        return bits;
    }

    int look() {
        int bits = suspects();
        int best = NONE;
        int least = Integer.MAX_VALUE;
        for (int l = 0; l < limbs.size() && bits != 0; l++) {
            Map<Integer, Integer> groups = new HashMap<>();
            for (int s = 0; s <= 6; s++) {
                if ((bits >> s & 1) == 1) {
                    groups.merge(heightOf(s == 6 ? state : withCut(1 << s), l), 1, Integer::sum);
                }
            }
            int most = groups.values().stream().mapToInt(Integer::intValue).max().getAsInt();
            if (most < least) {
                least = most;
                best = l;
            }
        }
        return best;
    }

    // ---- kinds, images

    private class LimbKind {
        int markOf(int l) {
            trace += 1;
            return heightOf(state, l);
        }
    }

    private class Head extends LimbKind {
        @Override int markOf(int l) {
            trace += 10;
            return super.markOf(l) + limbs.get(l).weight;
        }
    }

    private class Foot extends LimbKind {
        @Override int markOf(int l) {
            trace += 100;
            return super.markOf(l) - limbs.get(l).bone;
        }
    }

    private final class Crown extends Head {
        @Override int markOf(int l) {
            trace += 1000;
            return super.markOf(l) * 2;
        }
    }

    private final class Toe extends Foot {
        @Override int markOf(int l) {
            trace += 10000;
            return super.markOf(l) + l;
        }
    }

    private final class Hand extends LimbKind {
        @Override int markOf(int l) {
            trace += 100000;
            return super.markOf(l) + state.lift;
        }
    }

    int mark(int kind, int l) {
        if (!limbIs(l) || kind < 0 || kind > 5) {
            return NO;
        }
        LimbKind[] kinds = {new LimbKind(), new Head(), new Foot(), new Crown(), new Toe(), new Hand()};
        return kinds[kind].markOf(l);
    }

    private static List<State> copies(List<State> states) {
        List<State> all = new ArrayList<>();
        for (State s : states) {
            all.add(s.copy());
        }
        return all;
    }

    int keep(int image) {
        if (image != 0 && image != 1) {
            return BAD;
        }
        images[image] = new Image(state.copy(), copies(past));
        return state.lift;
    }

    int back(int image) {
        if (image != 0 && image != 1) {
            return BAD;
        }
        if (images[image] == null) {
            return STATE;
        }
        state = images[image].state.copy();
        past = copies(images[image].past);
        return state.lift;
    }

    int count(int what) {
        int[] answers = {limbs.size(), state.strings.size(), beats.size(), seen.size(), past.size(), text.length()};
        return what < 0 || what > 5 ? BAD : answers[what];
    }

    long trace() {
        return trace;
    }
}
