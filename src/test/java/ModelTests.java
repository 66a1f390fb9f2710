import java.util.ArrayList;
import java.util.Arrays;
import java.util.Collections;
import java.util.Comparator;
import java.util.HashMap;
import java.util.List;
import java.util.Map;
import java.util.Random;
import java.util.TreeMap;

/**
 * Long runs of calls by chance (always the same ones) on IdealWorks and on a slow model of the document
 * that is written in another way: maps for polynomials, a stack for the text, full elimination for spaces.
 * A dictionary is not made again but proved: its polynomials are in the ideal, reduced, and as many
 * monomials are no multiples of their leading ones as of the basis' leading ones.
 */
public final class ModelTests {
    private static final int NONE = -1;
    private static final int RUNS = 2000;
    private static final int CALLS = 500;
    private static int wrong = 0;

    // ---- the model ----

    /** A polynomial: coefficients by exponents (always four). */
    private static final class Poly extends TreeMap<List<Integer>, Integer> {
        private static final long serialVersionUID = 1L;

        Poly(Comparator<List<Integer>> order) {
            super(order);
        }

        int degree() {
            int d = NONE;
            for (List<Integer> m : keySet()) {
                d = Math.max(d, degreeOf(m));
            }
            return d;
        }
    }

    private static int degreeOf(List<Integer> m) {
        return m.get(0) + m.get(1) + m.get(2) + m.get(3);
    }

    private static List<Integer> times(List<Integer> a, List<Integer> b) {
        List<Integer> c = new ArrayList<>();
        for (int v = 0; v < 4; v++) {
            c.add(a.get(v) + b.get(v));
        }
        return c;
    }

    private static boolean divides(List<Integer> a, List<Integer> b) {
        for (int v = 0; v < 4; v++) {
            if (a.get(v) > b.get(v)) {
                return false;
            }
        }
        return true;
    }

    private static List<Integer> over(List<Integer> a, List<Integer> b) {
        List<Integer> c = new ArrayList<>();
        for (int v = 0; v < 4; v++) {
            c.add(a.get(v) - b.get(v));
        }
        return c;
    }

    private static List<Integer> unit(int v) {
        List<Integer> m = new ArrayList<>(Arrays.asList(0, 0, 0, 0));
        m.set(v, 1);
        return m;
    }

    private static int byDictionary(List<Integer> a, List<Integer> b) {
        for (int v = 0; v < 4; v++) {
            if (!a.get(v).equals(b.get(v))) {
                return a.get(v) < b.get(v) ? -1 : 1;
            }
        }
        return 0;
    }

    private static final class Order implements Comparator<List<Integer>> {
        final int kind;

        Order(int kind) {
            this.kind = kind;
        }

        public int compare(List<Integer> a, List<Integer> b) {
            if (degreeOf(a) != degreeOf(b)) {
                return Integer.compare(degreeOf(a), degreeOf(b));
            }
            if (kind == 1) {
                return byDictionary(a, b);
            }
            for (int v = 3; v >= 0; v--) {
                if (!a.get(v).equals(b.get(v))) {
                    return a.get(v) < b.get(v) ? 1 : -1;
                }
            }
            return 0;
        }
    }

    private static final class Fault extends Exception {
        private static final long serialVersionUID = 1L;
        final int kind;
        final int place;

        Fault(int kind, int place) {
            this.kind = kind;
            this.place = place;
        }
    }

    /** A sum that is being read. */
    private static final class Frame {
        Poly sum;
        Poly term = null;
        boolean minus = false;
        boolean fresh = true;
        int star = NONE;
    }

    /** A space up to a degree, its polynomials fully reduced against one another. */
    private static final class Room {
        final List<List<Integer>> monomials = new ArrayList<>();
        final Map<List<Integer>, Integer> places = new HashMap<>();
        final TreeMap<Integer, long[]> rows = new TreeMap<>();
        final int p;
        final int n;
        final int d;

        Room(int p, int n, int order, int d, List<Poly> generators) {
            this.p = p;
            this.n = n;
            this.d = d;
            for (int code = 0; code < 31 * 31 * 31 * 31; code++) {
                List<Integer> m = Arrays.asList(code % 31, code / 31 % 31, code / 961 % 31, code / 29791);
                if (m.get(3) > (n > 3 ? d : 0)) {
                    break;
                }
                boolean inside = degreeOf(m) <= d;
                for (int v = n; v < 4; v++) {
                    inside = inside && m.get(v) == 0;
                }
                if (inside) {
                    monomials.add(m);
                }
                if (m.get(2) > (n > 2 ? d : 0)) {
                    code += 29791 - 1 - code % 29791;
                } else if (m.get(1) > (n > 1 ? d : 0)) {
                    code += 961 - 1 - code % 961;
                } else if (m.get(0) > d) {
                    code += 31 - 1 - code % 31;
                }
            }
            monomials.sort(new Order(order));
            for (int k = 0; k < monomials.size(); k++) {
                places.put(monomials.get(k), k);
            }
            for (Poly g : generators) {
                if (g.degree() <= d) {
                    take(rowOf(g));
                }
            }
            int before = NONE;
            while (before != rows.size()) {
                before = rows.size();
                for (long[] row : new ArrayList<>(rows.values())) {
                    widen(row);
                }
            }
        }

        private void widen(long[] row) {
            for (int v = 0; v < n; v++) {
                long[] wider = new long[monomials.size()];
                boolean low = true;
                for (int k = 0; k < row.length; k++) {
                    if (row[k] != 0) {
                        Integer to = places.get(times(monomials.get(k), unit(v)));
                        low = low && to != null;
                        if (to != null) {
                            wider[to] = row[k];
                        }
                    }
                }
                if (low) {
                    take(wider);
                }
            }
        }

        long[] rowOf(Poly a) {
            long[] row = new long[monomials.size()];
            for (Map.Entry<List<Integer>, Integer> e : a.entrySet()) {
                row[places.get(e.getKey())] = e.getValue();
            }
            return row;
        }

        long[] reduce(long[] a) {
            long[] rest = a.clone();
            for (Map.Entry<Integer, long[]> e : rows.entrySet()) {
                subtract(rest, rest[e.getKey()], e.getValue());
            }
            return rest;
        }

        private void subtract(long[] from, long factor, long[] row) {
            for (int k = 0; factor != 0 && k < row.length; k++) {
                from[k] = Math.floorMod(from[k] - factor * row[k], (long) p);
            }
        }

        private void take(long[] a) {
            long[] rest = reduce(a);
            int lead = rest.length - 1;
            while (lead >= 0 && rest[lead] == 0) {
                lead--;
            }
            if (lead < 0) {
                return;
            }
            long inverse = 1;
            while (inverse * rest[lead] % p != 1) {
                inverse++;
            }
            for (int k = 0; k < rest.length; k++) {
                rest[k] = rest[k] * inverse % p;
            }
            for (long[] row : rows.values()) {
                subtract(row, row[lead], rest);
            }
            rows.put(lead, rest);
        }
    }

    private static final class Base {
        Room room;
        final List<List<Integer>> leads = new ArrayList<>();
        final List<Poly> polys = new ArrayList<>();
        boolean complete;
    }

    private static final class Model {
        static final int[] HIGHEST = {0, 30, 12, 7, 5};
        int p;
        int n;
        int order;
        Order compare;
        final Poly[] polys = new Poly[16];
        final List<List<Poly>> ideals = new ArrayList<>();
        final Base[] bases = new Base[4];
        byte[] ready = new byte[20];
        final StringBuilder text = new StringBuilder();
        int faultKind = 0;
        int faultPlace = NONE;
        String output = "";
        int proofs = 0;
        List<int[]> zeros = new ArrayList<>();

        Model() {
            for (int i = 0; i < 4; i++) {
                ideals.add(new ArrayList<>());
            }
            field(7, 2, 0);
        }

        void field(int p, int n, int order) {
            boolean prime = p >= 2 && p <= 32003;
            for (int k = 2; prime && k < p; k++) {
                prime = p % k != 0;
            }
            if (!prime || n < 1 || n > 4 || order < 0 || order > 1) {
                throw new IllegalArgumentException();
            }
            this.p = p;
            this.n = n;
            this.order = order;
            compare = new Order(order);
            for (int k = 0; k < 16; k++) {
                polys[k] = new Poly(compare);
            }
            for (int i = 0; i < 4; i++) {
                ideals.set(i, new ArrayList<>());
                bases[i] = null;
            }
            output = "";
        }

        void feed(int... words) {
            for (int k = 0; k < 20; k++) {
                ready[k] = (byte) (words[k / 4] >> (24 - k % 4 * 8));
            }
        }

        int end(int n) {
            if (n < 0 || n > 20 || text.length() + n > 400) {
                return NONE;
            }
            for (int k = 0; k < n; k++) {
                text.append((char) (ready[k] & 255));
            }
            ready = new byte[20];
            return text.length();
        }

        int read(int k) {
            needPoly(k);
            String source = text.toString();
            text.setLength(0);
            faultKind = 0;
            faultPlace = NONE;
            try {
                polys[k] = parse(source);
            } catch (Fault f) {
                faultKind = f.kind;
                faultPlace = f.place;
                throw new IllegalArgumentException();
            }
            return polys[k].size();
        }

        private static int skip(String s, int from) {
            int at = from;
            while (at < s.length() && s.charAt(at) == ' ') {
                at++;
            }
            return at;
        }

        private static int digitsEnd(String s, int from) {
            int at = from;
            while (at < s.length() && s.charAt(at) >= '0' && s.charAt(at) <= '9') {
                at++;
            }
            return at;
        }

        private Frame frame() {
            Frame f = new Frame();
            f.sum = new Poly(compare);
            return f;
        }

        private Poly parse(String s) throws Fault {
            ArrayList<Frame> frames = new ArrayList<>();
            frames.add(frame());
            int at = 0;
            while (true) {
                Frame top = frames.get(frames.size() - 1);
                at = skip(s, at);
                if (at == s.length()) {
                    throw new Fault(1, at);
                }
                char c = s.charAt(at);
                int v = "xyzw".substring(0, n).indexOf(c);
                Poly value = null;
                if (c == '-' && top.fresh) {
                    top.minus = true;
                    top.fresh = false;
                    at++;
                    continue;
                }
                top.fresh = false;
                if (c == '(') {
                    if (frames.size() == 21) {
                        throw new Fault(2, at);
                    }
                    frames.add(frame());
                    at++;
                    continue;
                } else if (c >= '0' && c <= '9') {
                    int to = digitsEnd(s, at);
                    if (to - at > 9) {
                        throw new Fault(4, at);
                    }
                    value = single(Arrays.asList(0, 0, 0, 0), Long.parseLong(s.substring(at, to)));
                    at = to;
                } else if (v >= 0) {
                    value = single(unit(v), 1);
                    at++;
                } else {
                    throw new Fault(1, at);
                }
                // behind an operand, as long as brackets are closed
                boolean more = false;
                while (!more) {
                    top = frames.get(frames.size() - 1);
                    at = skip(s, at);
                    if (at < s.length() && s.charAt(at) == '^') {
                        int hat = at;
                        at = skip(s, at + 1);
                        int to = digitsEnd(s, at);
                        if (to == at) {
                            throw new Fault(1, at);
                        }
                        if (to - at > 2) {
                            throw new Fault(4, at);
                        }
                        int e = Integer.parseInt(s.substring(at, to));
                        if (!value.isEmpty() && value.degree() * e > HIGHEST[n]) {
                            throw new Fault(3, hat);
                        }
                        Poly power = single(Arrays.asList(0, 0, 0, 0), 1);
                        for (int k = 0; k < e; k++) {
                            power = product(power, value);
                        }
                        value = power;
                        at = skip(s, to);
                    }
                    if (top.term == null) {
                        top.term = value;
                    } else {
                        boolean some = !value.isEmpty() && !top.term.isEmpty();
                        if (some && value.degree() + top.term.degree() > HIGHEST[n]) {
                            throw new Fault(3, top.star);
                        }
                        top.term = product(top.term, value);
                    }
                    if (at < s.length() && s.charAt(at) == '*') {
                        top.star = at;
                        more = true;
                        at++;
                        continue;
                    }
                    top.sum = sum(top.sum, top.minus ? -1 : 1, top.term);
                    top.term = null;
                    if (at < s.length() && (s.charAt(at) == '+' || s.charAt(at) == '-')) {
                        top.minus = s.charAt(at) == '-';
                        more = true;
                        at++;
                    } else if (at < s.length() && s.charAt(at) == ')' && frames.size() > 1) {
                        value = top.sum;
                        frames.remove(frames.size() - 1);
                        at++;
                    } else if (at == s.length() && frames.size() == 1) {
                        return top.sum;
                    } else {
                        throw new Fault(1, at);
                    }
                }
            }
        }

        Poly single(List<Integer> m, long c) {
            Poly a = new Poly(compare);
            grow(a, m, c);
            return a;
        }

        void grow(Poly a, List<Integer> m, long c) {
            long value = Math.floorMod(a.getOrDefault(m, 0) + c, (long) p);
            if (value == 0) {
                a.remove(m);
            } else {
                a.put(m, (int) value);
            }
        }

        Poly sum(Poly a, long f, Poly b) {
            Poly c = new Poly(compare);
            c.putAll(a);
            for (Map.Entry<List<Integer>, Integer> e : b.entrySet()) {
                grow(c, e.getKey(), f * e.getValue());
            }
            return c;
        }

        Poly product(Poly a, Poly b) {
            Poly c = new Poly(compare);
            for (Map.Entry<List<Integer>, Integer> e : a.entrySet()) {
                for (Map.Entry<List<Integer>, Integer> g : b.entrySet()) {
                    grow(c, times(e.getKey(), g.getKey()), (long) e.getValue() * g.getValue());
                }
            }
            return c;
        }

        private static void needPoly(int k) {
            if (k < 0 || k > 15) {
                throw new IndexOutOfBoundsException();
            }
        }

        private static void needIdeal(int i) {
            if (i < 0 || i > 3) {
                throw new IndexOutOfBoundsException();
            }
        }

        int fault(int what) {
            return what == 0 ? faultKind : what == 1 ? faultPlace : NONE;
        }

        void add(int a, int f, int b, int to) {
            needPoly(a);
            needPoly(b);
            needPoly(to);
            polys[to] = sum(polys[a], f, polys[b]);
        }

        void multiply(int a, int b, int to) {
            needPoly(a);
            needPoly(b);
            needPoly(to);
            Poly c = product(polys[a], polys[b]);
            if (c.degree() > HIGHEST[n]) {
                throw new IllegalStateException();
            }
            polys[to] = c;
        }

        void derive(int a, int v, int to) {
            needPoly(a);
            needPoly(to);
            if (v < 0 || v >= n) {
                throw new IndexOutOfBoundsException();
            }
            Poly c = new Poly(compare);
            for (Map.Entry<List<Integer>, Integer> e : polys[a].entrySet()) {
                if (e.getKey().get(v) > 0) {
                    grow(c, over(e.getKey(), unit(v)), (long) e.getValue() * e.getKey().get(v));
                }
            }
            polys[to] = c;
        }

        void put(int a, int v, int number, int to) {
            needPoly(a);
            needPoly(to);
            if (v < 0 || v >= n) {
                throw new IndexOutOfBoundsException();
            }
            Poly c = new Poly(compare);
            for (Map.Entry<List<Integer>, Integer> e : polys[a].entrySet()) {
                List<Integer> m = new ArrayList<>(e.getKey());
                long value = e.getValue();
                for (int k = 0; k < m.get(v); k++) {
                    value = value * Math.floorMod(number, p) % p;
                }
                m.set(v, 0);
                grow(c, m, value);
            }
            polys[to] = c;
        }

        int about(int k, int what) {
            if (k < 0 || k > 15) {
                return NONE;
            }
            return what == 0 ? polys[k].size() : what == 1 ? polys[k].degree() : NONE;
        }

        int term(int k, int i, int what) {
            if (k < 0 || k > 15 || i < 0 || i >= polys[k].size() || what < 0 || what > 4) {
                return NONE;
            }
            List<Integer> m = new ArrayList<>(polys[k].descendingKeySet()).get(i);
            return what == 4 ? polys[k].get(m) : m.get(what);
        }

        int print(int k) {
            needPoly(k);
            List<String> terms = new ArrayList<>();
            for (List<Integer> m : polys[k].descendingKeySet()) {
                List<String> factors = new ArrayList<>();
                if (polys[k].get(m) != 1 || degreeOf(m) == 0) {
                    factors.add("" + polys[k].get(m));
                }
                for (int v = 0; v < 4; v++) {
                    if (m.get(v) > 0) {
                        factors.add("xyzw".charAt(v) + (m.get(v) > 1 ? "^" + m.get(v) : ""));
                    }
                }
                terms.add(String.join("*", factors));
            }
            output = terms.isEmpty() ? "0" : String.join("+", terms);
            return output.length();
        }

        int output(int i) {
            return i < 0 || i >= output.length() ? NONE : output.charAt(i);
        }

        void clear(int i) {
            needIdeal(i);
            ideals.set(i, new ArrayList<>());
            bases[i] = null;
        }

        int join(int i, int k) {
            needIdeal(i);
            needPoly(k);
            if (polys[k].isEmpty()) {
                throw new IllegalArgumentException();
            }
            if (ideals.get(i).size() == 8) {
                throw new IllegalStateException();
            }
            ideals.get(i).add(polys[k]);
            bases[i] = null;
            return ideals.get(i).size();
        }

        void both(int a, int b, boolean product, int to) {
            needIdeal(a);
            needIdeal(b);
            needIdeal(to);
            List<Poly> all = new ArrayList<>();
            if (product) {
                for (Poly f : ideals.get(a)) {
                    for (Poly g : ideals.get(b)) {
                        all.add(product(f, g));
                    }
                }
            } else {
                all.addAll(ideals.get(a));
                all.addAll(ideals.get(b));
            }
            boolean high = all.size() > 8;
            for (Poly f : all) {
                high = high || f.degree() > HIGHEST[n];
            }
            if (high) {
                throw new IllegalStateException();
            }
            ideals.set(to, all);
            bases[to] = null;
        }

        int basis(int i, int d) {
            needIdeal(i);
            if (d < 0 || d > HIGHEST[n]) {
                throw new IllegalArgumentException();
            }
            Base base = new Base();
            base.room = new Room(p, n, order, d, ideals.get(i));
            for (Map.Entry<Integer, long[]> e : base.room.rows.entrySet()) {
                List<Integer> lead = base.room.monomials.get(e.getKey());
                boolean least = true;
                for (int other : base.room.rows.keySet()) {
                    least = least && (other == e.getKey() || !divides(base.room.monomials.get(other), lead));
                }
                if (least) {
                    base.leads.add(lead);
                    base.polys.add(polyOf(base.room, e.getValue()));
                }
            }
            base.complete = true;
            for (Poly g : ideals.get(i)) {
                base.complete = base.complete && g.degree() <= d;
            }
            for (List<Integer> a : base.leads) {
                for (List<Integer> b : base.leads) {
                    List<Integer> common = new ArrayList<>();
                    for (int v = 0; v < 4; v++) {
                        common.add(Math.max(a.get(v), b.get(v)));
                    }
                    boolean low = a == b || degreeOf(common) <= d || common.equals(times(a, b));
                    base.complete = base.complete && low;
                }
            }
            bases[i] = base;
            return base.leads.size();
        }

        private Poly polyOf(Room room, long[] row) {
            Poly a = new Poly(compare);
            for (int k = 0; k < row.length; k++) {
                grow(a, room.monomials.get(k), row[k]);
            }
            return a;
        }

        void element(int i, int k, int to) {
            needIdeal(i);
            needPoly(to);
            if (bases[i] == null) {
                throw new IllegalStateException();
            }
            if (k < 0 || k >= bases[i].polys.size()) {
                throw new IndexOutOfBoundsException();
            }
            polys[to] = bases[i].polys.get(k);
        }

        int ideal(int i, int what) {
            if (i < 0 || i > 3 || bases[i] == null) {
                return NONE;
            }
            Base b = bases[i];
            switch (what) {
                case 0: return b.complete ? 1 : 0;
                case 1: return b.polys.size();
                case 2: return b.room.d;
                case 3: return b.complete ? dimension(b) : NONE;
                default: return NONE;
            }
        }

        private int dimension(Base b) {
            int best = NONE;
            for (int set = 0; set < 1 << n; set++) {
                boolean free = true;
                for (List<Integer> m : b.leads) {
                    boolean inside = true;
                    for (int v = 0; v < 4; v++) {
                        inside = inside && (m.get(v) == 0 || (set >> v & 1) == 1);
                    }
                    free = free && !inside;
                }
                best = free ? Math.max(best, Integer.bitCount(set)) : best;
            }
            return best;
        }

        int standard(int i, int d) {
            if (i < 0 || i > 3 || bases[i] == null || d < 0 || d > bases[i].room.d) {
                return NONE;
            }
            int count = 0;
            Room room = bases[i].room;
            for (int k = 0; k < room.monomials.size(); k++) {
                if (degreeOf(room.monomials.get(k)) == d && !room.rows.containsKey(k)) {
                    count++;
                }
            }
            return count;
        }

        boolean remainder(int i, int a, int to) {
            needIdeal(i);
            needPoly(a);
            needPoly(to);
            if (bases[i] == null || polys[a].degree() > bases[i].room.d) {
                throw new IllegalStateException();
            }
            Room room = bases[i].room;
            polys[to] = polyOf(room, room.reduce(room.rowOf(polys[a])));
            proofs += polys[to].isEmpty() ? 1 : 0;
            return polys[to].isEmpty();
        }

        boolean radical(int i, int a, int d) {
            needIdeal(i);
            needPoly(a);
            if (n == 4 || d < 0 || d > HIGHEST[n + 1]) {
                throw new IllegalArgumentException();
            }
            List<Poly> all = new ArrayList<>(ideals.get(i));
            Poly inverter = sum(single(Arrays.asList(0, 0, 0, 0), 1), -1, product(single(unit(n), 1), polys[a]));
            all.add(inverter);
            for (Poly f : all) {
                if (f.degree() > HIGHEST[n + 1]) {
                    throw new IllegalArgumentException();
                }
            }
            return new Room(p, n + 1, 0, d, all).rows.containsKey(0);
        }

        /** How many monomials are no multiples of the leads; NONE above 40. */
        int gaps(List<List<Integer>> leads) {
            List<List<Integer>> all = new ArrayList<>();
            all.add(Arrays.asList(0, 0, 0, 0));
            for (int k = 0; k < all.size(); k++) {
                for (int v = 0; v < n; v++) {
                    List<Integer> m = times(all.get(k), unit(v));
                    boolean free = !all.contains(m);
                    for (List<Integer> lead : leads) {
                        free = free && !divides(lead, m);
                    }
                    if (free) {
                        all.add(m);
                    }
                }
                if (all.size() > 40) {
                    return NONE;
                }
            }
            return all.size();
        }

        boolean dictionaryIsDue(int i) {
            needIdeal(i);
            Base b = bases[i];
            if (b == null || !b.complete || b.leads.contains(Arrays.asList(0, 0, 0, 0))) {
                return false;
            }
            return gaps(b.leads) != NONE;
        }

        Poly divided(Poly a, List<Poly> by) {
            Poly rest = a;
            Poly kept = new Poly(compare);
            while (!rest.isEmpty()) {
                List<Integer> lead = rest.lastKey();
                Poly divisor = null;
                for (Poly g : by) {
                    divisor = divides(g.lastKey(), lead) ? g : divisor;
                }
                if (divisor == null) {
                    kept.put(lead, rest.get(lead));
                    rest = sum(rest, -1, single(lead, rest.get(lead)));
                } else {
                    Poly factor = single(over(lead, divisor.lastKey()), rest.get(lead));
                    rest = sum(rest, -1, product(factor, divisor));
                }
            }
            return kept;
        }

        int zeros(int i) {
            needIdeal(i);
            double all = Math.pow(p, n);
            if (all > 20000) {
                throw new IllegalStateException();
            }
            List<int[]> found = new ArrayList<>();
            for (int k = 0; k < (int) all; k++) {
                int[] point = new int[n];
                int rest = k;
                for (int v = n - 1; v >= 0; v--) {
                    point[v] = rest % p;
                    rest /= p;
                }
                boolean zero = true;
                for (Poly g : ideals.get(i)) {
                    zero = zero && value(g, point) == 0;
                }
                if (zero) {
                    found.add(point);
                }
            }
            zeros = found;
            return found.size();
        }

        private long value(Poly g, int[] point) {
            long total = 0;
            for (Map.Entry<List<Integer>, Integer> e : g.entrySet()) {
                long value = e.getValue();
                for (int v = 0; v < n; v++) {
                    for (int k = 0; k < e.getKey().get(v); k++) {
                        value = value * point[v] % p;
                    }
                }
                total += value;
            }
            return total % p;
        }

        int zero(int k, int v) {
            if (k < 0 || k >= zeros.size() || k >= 200 || v < 0 || v >= zeros.get(k).length) {
                return NONE;
            }
            return zeros.get(k)[v];
        }
    }

    // ---- the runs ----

    private interface Call {
        long go();
    }

    /** An answer, or which exception. */
    private static String answer(Call c) {
        try {
            return "" + c.go();
        } catch (IndexOutOfBoundsException | IllegalArgumentException | IllegalStateException e) {
            return "throws " + e.getClass().getName();
        } catch (RuntimeException e) {
            return "the machine throws " + e;
        }
    }

    private static final class Run {
        final int number;
        final Random chance;
        final IdealWorks works = new IdealWorks();
        final Model model = new Model();
        final List<String> log = new ArrayList<>();
        int calls = 0;
        boolean failed = false;
        int dictionaryVariables = 0;

        Run(int number) {
            this.number = number;
            chance = new Random(number * 7919L + 17);
        }

        void same(String what, Call mine, Call due) {
            calls++;
            String got = answer(mine);
            String want = answer(due);
            log.add(what + " = " + got);
            if (!got.equals(want)) {
                fail(what + " answered " + got + ", due is " + want);
            }
        }

        void fail(String what) {
            if (!failed) {
                System.out.println("run " + number + ": " + what);
                int from = Math.max(0, log.size() - 40);
                System.out.println("  behind " + log.subList(from, log.size()));
                wrong++;
            }
            failed = true;
        }

        boolean often(int percent) {
            return chance.nextInt(100) < percent;
        }

        int pick(int... from) {
            return from[chance.nextInt(from.length)];
        }

        int odd() {
            return pick(-1, -2, 4, 5, 15, 16, 17, 400, Integer.MIN_VALUE, Integer.MAX_VALUE);
        }

        int poly() {
            return often(3) ? odd() : chance.nextInt(often(70) ? 6 : 16);
        }

        int ideal() {
            return often(3) ? odd() : chance.nextInt(often(70) ? 2 : 4);
        }

        int variable() {
            return often(6) ? odd() : chance.nextInt(often(90) ? model.n : 4);
        }

        void go() {
            field();
            while (calls < CALLS && !failed) {
                step();
            }
            for (int k = 0; k < 16 && !failed; k++) {
                checkPoly(k);
            }
        }

        private void field() {
            int p = often(4) ? pick(0, 1, -7, 4, 9, 32001, 32004, 32009, 91) : pick(2, 2, 3, 3, 5, 7, 11, 13, 101, 139, 141, 19997, 31991, 32003);
            int n = often(4) ? pick(0, 5, -1, 6) : 1 + chance.nextInt(4);
            int order = often(3) ? pick(2, -1, 3) : chance.nextInt(2);
            same("field(" + p + "," + n + "," + order + ")",
                () -> { works.field(p, n, order); return 0; }, () -> { model.field(p, n, order); return 0; });
        }

        private void step() {
            int kind = chance.nextInt(100);
            if (kind < 26) {
                text(often(80) ? clean(1 + chance.nextInt(4), 2) : wild());
                int k = poly();
                same("read(" + k + ")", () -> works.read(k), () -> model.read(k));
                same("fault(0)", () -> works.fault(0), () -> model.fault(0));
                same("fault(1)", () -> works.fault(1), () -> model.fault(1));
                int o = odd();
                same("fault(o)", () -> works.fault(o), () -> model.fault(o));
                checkPoly(k);
            } else if (kind < 44) {
                reckon();
            } else if (kind < 60) {
                gather();
            } else if (kind < 78) {
                base();
            } else if (kind < 90) {
                ask();
            } else if (kind < 93) {
                zeros();
            } else if (kind < 94) {
                field();
            } else if (kind < 96) {
                dictionary(ideal());
            } else {
                system();
            }
        }

        /** An ideal with a power of each variable and lesser things, so that a dictionary is due often. */
        private void system() {
            int i = chance.nextInt(4);
            same("clear(" + i + ")", () -> { works.clear(i); return 0; }, () -> { model.clear(i); return 0; });
            int highest = 1;
            boolean dense = often(50);
            for (int v = 0; v < model.n; v++) {
                int most = model.n == 1 ? 30 : model.n == 2 ? 7 : model.n == 3 ? 4 : 3;
                int e = dense && model.n > 2 ? 2 : 1 + chance.nextInt(most);
                highest = Math.max(highest, e);
                text(dense && e < 6 ? forms(e) : powerAndMore(v, e));
                int k = chance.nextInt(16);
                same("read(" + k + ")", () -> works.read(k), () -> model.read(k));
                same("join(" + i + "," + k + ")", () -> works.join(i, k), () -> model.join(i, k));
            }
            int d = often(60) ? Model.HIGHEST[model.n] : Math.min(highest, Model.HIGHEST[model.n]);
            same("basis(" + i + "," + d + ")", () -> works.basis(i, d), () -> model.basis(i, d));
            askIdeal(i);
            dictionary(i);
        }

        private String powerAndMore(int v, int e) {
            StringBuilder s = new StringBuilder("xyzw".charAt(v) + "^" + e);
            for (int t = chance.nextInt(4); t > 0; t--) {
                s.append(often(50) ? "+" : "-").append(1 + chance.nextInt(9));
                for (int left = often(50) ? e - 1 : e; left > 0 && often(80); left--) {
                    s.append("*").append("xyzw".charAt(chance.nextInt(model.n)));
                }
            }
            return s.toString();
        }

        /** Two products of linear forms, so that nearly all monomials up to a degree are there. */
        private String forms(int e) {
            StringBuilder s = new StringBuilder();
            for (int t = 0; t < 2; t++) {
                s.append(t > 0 ? "+" : "").append("1");
                for (int k = 0; k < e; k++) {
                    s.append("*(").append(chance.nextInt(10));
                    for (int v = 0; v < model.n; v++) {
                        s.append(often(70) ? "+" + chance.nextInt(10) + "*" + "xyzw".charAt(v) : "");
                    }
                    s.append(")");
                }
            }
            return s.toString();
        }

        /** A text without a fault but perhaps for degrees. */
        private String clean(int terms, int depth) {
            StringBuilder s = new StringBuilder();
            s.append(space()).append(often(20) ? "-" : "");
            for (int t = 0; t < terms; t++) {
                s.append(t > 0 ? (often(60) ? "+" : "-") : "").append(space());
                int factors = 1 + chance.nextInt(3);
                for (int f = 0; f < factors; f++) {
                    s.append(f > 0 ? "*" : "").append(space()).append(factor(depth)).append(space());
                }
            }
            return s.toString();
        }

        private String space() {
            return often(90) ? "" : often(70) ? " " : "   ";
        }

        private String factor(int depth) {
            String hat = often(35) ? space() + "^" + space() + (often(90) ? chance.nextInt(4) : chance.nextInt(100)) : "";
            if (depth > 0 && often(12)) {
                return "(" + clean(1 + chance.nextInt(3), depth - 1) + ")" + hat;
            }
            if (often(25)) {
                return (often(80) ? chance.nextInt(12) : chance.nextInt(1000000000)) + hat;
            }
            return "xyzw".charAt(chance.nextInt(model.n)) + hat;
        }

        private String wild() {
            StringBuilder s = new StringBuilder(clean(1 + chance.nextInt(3), 3));
            int changes = 1 + chance.nextInt(2);
            String bytes = "xyzw()+-*^0123456789 $a\u0000\u00e9\t\n";
            for (int k = 0; k < changes; k++) {
                int at = chance.nextInt(s.length() + 1);
                char c = bytes.charAt(chance.nextInt(bytes.length()));
                switch (chance.nextInt(5)) {
                    case 0: s.insert(at, c); break;
                    case 1: s.setLength(at); break;
                    case 2: s.insert(at, "1234567890".substring(chance.nextInt(3))); break;
                    case 3: s.insert(0, "(".repeat(15 + chance.nextInt(8))).append(")".repeat(15 + chance.nextInt(8))); break;
                    default: if (at < s.length()) { s.setCharAt(at, c); }
                }
            }
            return s.toString();
        }

        private void text(String whole) {
            String s = whole.length() > 430 ? whole.substring(0, 430) : whole;
            int at = 0;
            while (at < s.length()) {
                int size = Math.min(s.length() - at, often(80) ? 20 : 1 + chance.nextInt(20));
                int[] words = new int[5];
                for (int k = 0; k < 20; k++) {
                    int b = at + k < s.length() ? s.charAt(at + k) & 255 : 0;
                    words[k / 4] |= b << (24 - k % 4 * 8);
                }
                works.feed(words[0], words[1], words[2], words[3], words[4]);
                model.feed(words);
                calls++;
                if (often(3)) {
                    int bad = pick(-1, 21, 400, Integer.MIN_VALUE, Integer.MAX_VALUE);
                    same("end(" + bad + ")", () -> works.end(bad), () -> model.end(bad));
                }
                if (often(1)) {
                    field();
                }
                same("end(" + size + ") of " + s.substring(at), () -> works.end(size), () -> model.end(size));
                at += size;
            }
            if (often(5)) {
                int n = chance.nextInt(3);
                same("end(" + n + ")", () -> works.end(n), () -> model.end(n));
            }
        }

        private void checkPoly(int k) {
            for (int what = -1; what <= 2; what++) {
                int w = what;
                same("about(" + k + "," + w + ")", () -> works.about(k, w), () -> model.about(k, w));
            }
            int terms = Math.max(0, model.about(k, 0));
            int i = often(10) ? odd() : chance.nextInt(terms + 1);
            for (int what = 0; what <= 4; what++) {
                int w = what;
                same("term(" + k + "," + i + "," + w + ")", () -> works.term(k, i, w), () -> model.term(k, i, w));
            }
            // all of it at once, as one call of the run
            same("print(" + k + ")", () -> works.print(k), () -> model.print(k));
            for (int b = -1; b <= model.output.length(); b++) {
                if (works.output(b) != model.output(b)) {
                    fail("output(" + b + ") of " + model.output);
                    return;
                }
            }
        }

        private void reckon() {
            int a = poly();
            int b = poly();
            int to = poly();
            int v = variable();
            int f = often(70) ? chance.nextInt(20) - 10 : chance.nextInt();
            switch (chance.nextInt(4)) {
                case 0:
                    same("add(" + a + "," + f + "," + b + "," + to + ")",
                        () -> { works.add(a, f, b, to); return 0; }, () -> { model.add(a, f, b, to); return 0; });
                    break;
                case 1:
                    same("multiply(" + a + "," + b + "," + to + ")",
                        () -> { works.multiply(a, b, to); return 0; }, () -> { model.multiply(a, b, to); return 0; });
                    break;
                case 2:
                    same("derive(" + a + "," + v + "," + to + ")",
                        () -> { works.derive(a, v, to); return 0; }, () -> { model.derive(a, v, to); return 0; });
                    break;
                default:
                    same("put(" + a + "," + v + "," + f + "," + to + ")",
                        () -> { works.put(a, v, f, to); return 0; }, () -> { model.put(a, v, f, to); return 0; });
            }
            checkPoly(to);
        }

        private void gather() {
            int i = ideal();
            int j = ideal();
            int k = poly();
            switch (chance.nextInt(8)) {
                case 0:
                    same("clear(" + i + ")", () -> { works.clear(i); return 0; }, () -> { model.clear(i); return 0; });
                    break;
                case 1:
                    boolean product = chance.nextBoolean();
                    int to = ideal();
                    same("both(" + i + "," + j + "," + product + "," + to + ")",
                        () -> { works.both(i, j, product, to); return 0; }, () -> { model.both(i, j, product, to); return 0; });
                    break;
                default:
                    same("join(" + i + "," + k + ")", () -> works.join(i, k), () -> model.join(i, k));
            }
        }

        private void base() {
            int i = ideal();
            int d = often(4) ? odd() : often(50) ? Model.HIGHEST[model.n] : chance.nextInt(Model.HIGHEST[model.n] + 1);
            same("basis(" + i + "," + d + ")", () -> works.basis(i, d), () -> model.basis(i, d));
            askIdeal(i);
            int size = Math.max(0, model.ideal(i, 1));
            for (int k = 0; k < size && k < 6; k++) {
                int which = often(10) ? size : size <= 6 ? k : chance.nextInt(size);
                int to = 6 + k;
                same("element(" + i + "," + which + "," + to + ")",
                    () -> { works.element(i, which, to); return 0; }, () -> { model.element(i, which, to); return 0; });
                checkPoly(to);
            }
        }

        private void askIdeal(int i) {
            for (int what = -1; what <= 4; what++) {
                int w = what;
                same("ideal(" + i + "," + w + ")", () -> works.ideal(i, w), () -> model.ideal(i, w));
            }
            int d = often(10) ? odd() : chance.nextInt(Model.HIGHEST[model.n] + 2);
            same("standard(" + i + "," + d + ")", () -> works.standard(i, d), () -> model.standard(i, d));
            same("standard(" + i + ",1)", () -> works.standard(i, 1), () -> model.standard(i, 1));
        }

        private void ask() {
            int i = ideal();
            int a = poly();
            int to = poly();
            int k = often(20) ? odd() : chance.nextInt(8);
            switch (chance.nextInt(8)) {
                case 0:
                    int d = often(4) ? odd() : chance.nextInt(Model.HIGHEST[Math.min(4, model.n + 1)] + 1);
                    same("radical(" + i + "," + a + "," + d + ")",
                        () -> works.radical(i, a, d) ? 1 : 0, () -> model.radical(i, a, d) ? 1 : 0);
                    break;
                case 1:
                    same("element(" + i + "," + k + "," + to + ")",
                        () -> { works.element(i, k, to); return 0; }, () -> { model.element(i, k, to); return 0; });
                    break;
                case 2:
                    askIdeal(i);
                    break;
                case 3:
                    member(i, to);
                    break;
                default:
                    same("remainder(" + i + "," + a + "," + to + ")",
                        () -> works.remainder(i, a, to) ? 1 : 0, () -> model.remainder(i, a, to) ? 1 : 0);
                    checkPoly(to);
            }
            same("proved()", () -> works.proved(), () -> model.proofs);
        }

        /** A sum of multiples of generators, so that remainders are 0 often. */
        private void member(int i, int to) {
            if (i < 0 || i > 3 || to < 0 || to > 15 || model.ideals.get(i).isEmpty() || model.bases[i] == null) {
                return;
            }
            int size = model.bases[i].polys.size();
            if (size == 0) {
                return;
            }
            int k = chance.nextInt(size);
            int l = chance.nextInt(size);
            int f = chance.nextInt(50);
            same("element", () -> { works.element(i, k, 14); return 0; }, () -> { model.element(i, k, 14); return 0; });
            same("element", () -> { works.element(i, l, 15); return 0; }, () -> { model.element(i, l, 15); return 0; });
            same("multiply", () -> { works.multiply(14, 5, 14); return 0; }, () -> { model.multiply(14, 5, 14); return 0; });
            same("add", () -> { works.add(14, f, 15, 14); return 0; }, () -> { model.add(14, f, 15, 14); return 0; });
            same("remainder(" + i + ",14," + to + ")",
                () -> works.remainder(i, 14, to) ? 1 : 0, () -> model.remainder(i, 14, to) ? 1 : 0);
            checkPoly(to);
        }

        private void zeros() {
            int i = ideal();
            if (Math.pow(model.p, model.n) > 3000 && Math.pow(model.p, model.n) <= 20000 && often(60)) {
                return;
            }
            same("zeros(" + i + ")", () -> works.zeros(i), () -> model.zeros(i));
            for (int t = 0; t < 8; t++) {
                int k = often(10) ? odd() : often(20) ? 198 + chance.nextInt(4) : chance.nextInt(Math.min(210, model.zeros.size() + 1));
                int v = often(10) ? odd() : chance.nextInt(4);
                same("zero(" + k + "," + v + ")", () -> works.zero(k, v), () -> model.zero(k, v));
            }
        }

        private void dictionary(int i) {
            String got = answer(() -> works.dictionary(i));
            calls++;
            log.add("dictionary(" + i + ") = " + got);
            if (i < 0 || i > 3) {
                if (!got.equals("throws java.lang.IndexOutOfBoundsException")) {
                    fail("dictionary(" + i + ") answered " + got);
                }
            } else if (!model.dictionaryIsDue(i)) {
                if (!got.equals("throws java.lang.IllegalStateException")) {
                    fail("dictionary(" + i + ") answered " + got);
                }
            } else if (got.startsWith("t")) {
                fail("dictionary(" + i + ") answered " + got);
            } else {
                dictionaries++;
                proveDictionary(i, Integer.parseInt(got));
            }
        }

        private void proveDictionary(int i, int size) {
            List<List<Integer>> leads = new ArrayList<>();
            List<List<List<Integer>>> supports = new ArrayList<>();
            for (int k = 0; k < size; k++) {
                List<List<Integer>> support = new ArrayList<>();
                Poly a = new Poly(model.compare);
                for (int j = 0; j <= 41; j++) {
                    int c = works.entry(k, j, 4);
                    if (c == NONE) {
                        break;
                    }
                    List<Integer> m = Arrays.asList(works.entry(k, j, 0), works.entry(k, j, 1), works.entry(k, j, 2), works.entry(k, j, 3));
                    support.add(m);
                    model.grow(a, m, c);
                    if (c <= 0 || c >= model.p || (j == 0 && c != 1) || works.entry(k, j, 5) != NONE || works.entry(k, j, -1) != NONE) {
                        fail("entry(" + k + "," + j + ",4) is " + c);
                    }
                    if (j > 0 && byDictionary(support.get(j - 1), m) <= 0) {
                        fail("entry(" + k + "," + j + ",..) is out of order");
                    }
                }
                if (support.isEmpty() || works.entry(k, support.size(), 0) != NONE || works.entry(k, -1, 0) != NONE) {
                    fail("entry(" + k + ",..) has no end or no beginning");
                    return;
                }
                if (k > 0 && byDictionary(leads.get(k - 1), support.get(0)) >= 0) {
                    fail("the dictionary's polynomials are out of order");
                }
                if (!model.divided(a, model.bases[i].polys).isEmpty()) {
                    fail("polynomial " + k + " of the dictionary is not in the ideal");
                }
                leads.add(support.get(0));
                supports.add(support);
            }
            if (works.entry(size, 0, 0) != NONE || works.entry(-1, 0, 0) != NONE) {
                fail("the dictionary has more polynomials");
            }
            for (int k = 0; k < size; k++) {
                for (List<Integer> m : supports.get(k)) {
                    for (int l = 0; l < size; l++) {
                        if (divides(leads.get(l), m) && !(l == k && m == supports.get(k).get(0))) {
                            fail("polynomial " + k + " of the dictionary is not reduced");
                        }
                    }
                }
            }
            if (model.gaps(leads) != model.gaps(model.bases[i].leads)) {
                fail("the dictionary is not whole");
            }
        }
    }

    private static int dictionaries = 0;

    public static void main(String[] args) {
        int runs = args.length > 0 ? Integer.parseInt(args[0]) : RUNS;
        int from = args.length > 1 ? Integer.parseInt(args[1]) : 0;
        int proofs = 0;
        for (int k = from; k < from + runs && wrong < 5; k++) {
            Run run = new Run(k);
            run.go();
            proofs += run.model.proofs;
        }
        if (runs >= RUNS && (dictionaries < 100 || proofs < 500)) {
            wrong++;
            System.out.println("the runs are too thin: " + dictionaries + " dictionaries, " + proofs + " proofs");
        }
        System.out.println(wrong == 0 ? "all runs are as due, " + dictionaries + " dictionaries, " + proofs + " proofs" : wrong + " runs are not as due");
        if (wrong != 0) {
            System.exit(1);
        }
    }
}
