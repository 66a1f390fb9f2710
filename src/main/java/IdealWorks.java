import java.util.Arrays;

/** A works for ideals of polynomials over the numbers modulo a prime. README.md says how it is used. */
public final class IdealWorks {
    public static final int NONE = -1;

    private static final int POLYNOMIALS = 16;
    private static final int IDEALS = 4;
    private static final int GENERATORS = 8;
    private static final int VARIABLES = 4;
    private static final int LARGEST_PRIME = 32003;
    private static final int MOST_POINTS = 20000;
    private static final int[] HIGHEST = {0, 30, 12, 7, 5};

    /** Monomials of 4 variables up to degree 5; fewer variables have fewer up to their HIGHEST. */
    private static final int ROOM = 126;

    private final Ring ring = new Ring();
    /** The same with one more variable, for radical(). */
    private final Ring wideRing = new Ring();
    private final int[][] polynomials = new int[POLYNOMIALS][ROOM];
    private final Ideal[] ideals = new Ideal[IDEALS];
    /** What radical() and both() make before it is known whether they are refused. */
    private final Ideal draft = new Ideal();
    private final TextReader reader = new TextReader(ring);
    private final Printer printer = new Printer(ring);
    private final Quotient quotient = new Quotient();
    private final Lexicon lexicon = new Lexicon();
    private final ZeroFinder zeroFinder = new ZeroFinder();
    /** Every result is made here first, since the target may be one of the operands. */
    private final int[] result = new int[ROOM];
    private int proofs = 0;

    public IdealWorks() {
        for (int i = 0; i < IDEALS; i++) {
            ideals[i] = new Ideal();
        }
        beginAnew(7, 2, 0);
    }

    public void field(int p, int n, int order) throws IllegalArgumentException {
        boolean known = n >= 1 && n <= VARIABLES && (order == 0 || order == 1);
        if (!known || !isPrime(p)) {
            throw new IllegalArgumentException();
        }
        beginAnew(p, n, order);
    }

    public void feed(int a, int b, int c, int d, int e) {
        reader.makeReady(0, a);
        reader.makeReady(4, b);
        reader.makeReady(8, c);
        reader.makeReady(12, d);
        reader.makeReady(16, e);
    }

    public int end(int n) {
        return reader.lengthen(n);
    }

    public int read(int k) throws IndexOutOfBoundsException, IllegalArgumentException {
        needPolynomial(k);
        if (!reader.understand(result)) {
            throw new IllegalArgumentException();
        }
        keepResult(k);
        return ring.termsOf(result);
    }

    public int fault(int what) {
        switch (what) {
            case 0: return reader.faultKind;
            case 1: return reader.faultPlace;
            default: return NONE;
        }
    }

    public void add(int a, int f, int b, int to) throws IndexOutOfBoundsException {
        needPolynomial(a);
        needPolynomial(b);
        needPolynomial(to);
        System.arraycopy(polynomials[a], 0, result, 0, ROOM);
        ring.addMultiple(result, ring.residue(f), polynomials[b], ring.count);
        keepResult(to);
    }

    public void multiply(int a, int b, int to) throws IndexOutOfBoundsException, IllegalStateException {
        needPolynomial(a);
        needPolynomial(b);
        needPolynomial(to);
        if (!ring.productFits(polynomials[a], polynomials[b])) {
            throw new IllegalStateException();
        }
        ring.productInto(polynomials[a], polynomials[b], result);
        keepResult(to);
    }

    public void derive(int a, int v, int to) throws IndexOutOfBoundsException {
        needPolynomial(a);
        needVariable(v);
        needPolynomial(to);
        ring.derivativeInto(polynomials[a], v, result);
        keepResult(to);
    }

    public void put(int a, int v, int number, int to) throws IndexOutOfBoundsException {
        needPolynomial(a);
        needVariable(v);
        needPolynomial(to);
        ring.substituteInto(polynomials[a], v, ring.residue(number), result);
        keepResult(to);
    }

    public int about(int k, int what) {
        if (!isPolynomial(k)) {
            return NONE;
        }
        switch (what) {
            case 0: return ring.termsOf(polynomials[k]);
            case 1: return ring.degreeOf(polynomials[k]);
            default: return NONE;
        }
    }

    public int term(int k, int i, int what) {
        if (!isPolynomial(k) || what < 0 || what > VARIABLES) {
            return NONE;
        }
        int m = ring.monomialOfTerm(polynomials[k], i);
        if (m == NONE) {
            return NONE;
        }
        return what < VARIABLES ? ring.exponentOf(m, what) : polynomials[k][m];
    }

    public int print(int k) throws IndexOutOfBoundsException {
        needPolynomial(k);
        return printer.write(polynomials[k]);
    }

    public int output(int i) {
        return printer.byteAt(i);
    }

    public void clear(int i) throws IndexOutOfBoundsException {
        needIdeal(i);
        ideals[i].forget();
    }

    public int join(int i, int k) throws IndexOutOfBoundsException, IllegalArgumentException, IllegalStateException {
        needIdeal(i);
        needPolynomial(k);
        if (ring.topOf(polynomials[k]) == NONE) {
            throw new IllegalArgumentException();
        }
        if (ideals[i].generatorCount >= GENERATORS) {
            throw new IllegalStateException();
        }
        ideals[i].append(polynomials[k]);
        return ideals[i].generatorCount;
    }

    public void both(int a, int b, boolean product, int to) throws IndexOutOfBoundsException, IllegalStateException {
        needIdeal(a);
        needIdeal(b);
        needIdeal(to);
        int first = ideals[a].generatorCount;
        int second = ideals[b].generatorCount;
        if ((product ? first * second : first + second) > GENERATORS) {
            throw new IllegalStateException();
        }
        draft.forget();
        if (!product) {
            draft.appendAll(ideals[a]);
            draft.appendAll(ideals[b]);
        } else if (!draftProducts(ideals[a], ideals[b])) {
            throw new IllegalStateException();
        }
        ideals[to].forget();
        ideals[to].appendAll(draft);
    }

    public int basis(int i, int d) throws IndexOutOfBoundsException, IllegalArgumentException {
        needIdeal(i);
        if (d < 0 || d > ring.highest) {
            throw new IllegalArgumentException();
        }
        ideals[i].findBasis(ring, d);
        return ideals[i].cornerCount;
    }

    public void element(int i, int k, int to) throws IndexOutOfBoundsException, IllegalStateException {
        needIdeal(i);
        needPolynomial(to);
        if (!ideals[i].hasBasis) {
            throw new IllegalStateException();
        }
        if (k < 0 || k >= ideals[i].cornerCount) {
            throw new IndexOutOfBoundsException();
        }
        ideals[i].space.reducedInto(ring, ideals[i].corners[k], result);
        keepResult(to);
    }

    public int ideal(int i, int what) {
        if (!isIdeal(i) || !ideals[i].hasBasis) {
            return NONE;
        }
        switch (what) {
            case 0: return ideals[i].complete ? 1 : 0;
            case 1: return ideals[i].cornerCount;
            case 2: return ideals[i].space.bound;
            case 3: return ideals[i].complete ? ideals[i].dimension(ring) : NONE;
            default: return NONE;
        }
    }

    public int standard(int i, int d) {
        if (!isIdeal(i) || !ideals[i].hasBasis) {
            return NONE;
        }
        return ideals[i].space.gapsOfDegree(ring, d);
    }

    public boolean remainder(int i, int a, int to) throws IndexOutOfBoundsException, IllegalStateException {
        needIdeal(i);
        needPolynomial(a);
        needPolynomial(to);
        Ideal of = ideals[i];
        if (!of.hasBasis || ring.degreeOf(polynomials[a]) > of.space.bound) {
            throw new IllegalStateException();
        }
        boolean isIn = of.space.remainderInto(ring, polynomials[a], result);
        if (isIn && of.space.proves(ring, of.generators, polynomials[a])) {
            proofs++;
        }
        keepResult(to);
        return isIn;
    }

    public int proved() {
        return proofs;
    }

    public boolean radical(int i, int a, int d) throws IndexOutOfBoundsException, IllegalArgumentException {
        needIdeal(i);
        needPolynomial(a);
        if (ring.variables >= VARIABLES || d < 0 || d > wideRing.highest) {
            throw new IllegalArgumentException();
        }
        if (ideals[i].greatestDegree(ring) > wideRing.highest || ring.degreeOf(polynomials[a]) >= wideRing.highest) {
            throw new IllegalArgumentException();
        }
        draft.forget();
        for (int g = 0; g < ideals[i].generatorCount; g++) {
            ring.widenInto(ideals[i].generators[g], wideRing, result);
            draft.append(result);
        }
        ring.inverterInto(polynomials[a], wideRing, result);
        draft.append(result);
        draft.space.build(wideRing, draft.generators, draft.generatorCount, d);
        return draft.space.isLead(0);
    }

    public int dictionary(int i) throws IndexOutOfBoundsException, IllegalStateException {
        needIdeal(i);
        Ideal of = ideals[i];
        boolean fine = of.hasBasis && of.complete && !of.space.isLead(0);
        if (!fine || !quotient.gather(ring, of)) {
            throw new IllegalStateException();
        }
        quotient.findForms(ring, of);
        return lexicon.compile(ring, quotient);
    }

    public int entry(int k, int j, int what) {
        return lexicon.look(k, j, what);
    }

    public int zeros(int i) throws IndexOutOfBoundsException, IllegalStateException {
        needIdeal(i);
        if (ring.points(ring.variables) > MOST_POINTS) {
            throw new IllegalStateException();
        }
        return zeroFinder.search(ring, ideals[i]);
    }

    public int zero(int k, int v) {
        return zeroFinder.coordinate(k, v);
    }

    private void beginAnew(int p, int n, int order) {
        ring.lay(p, n, order);
        if (n < VARIABLES) {
            wideRing.lay(p, n + 1, order);
        }
        for (int k = 0; k < POLYNOMIALS; k++) {
            Arrays.fill(polynomials[k], 0);
        }
        for (int i = 0; i < IDEALS; i++) {
            ideals[i].forget();
        }
        printer.forget();
    }

    private boolean draftProducts(Ideal a, Ideal b) {
        for (int i = 0; i < a.generatorCount; i++) {
            for (int j = 0; j < b.generatorCount; j++) {
                if (!ring.productFits(a.generators[i], b.generators[j])) {
                    return false;
                }
                ring.productInto(a.generators[i], b.generators[j], result);
                draft.append(result);
            }
        }
        return true;
    }

    private void keepResult(int to) {
        System.arraycopy(result, 0, polynomials[to], 0, ROOM);
    }

    private static boolean isPrime(int p) {
        if (p < 2 || p > LARGEST_PRIME) {
            return false;
        }
        for (int k = 2; k * k <= p; k++) {
            if (p % k == 0) {
                return false;
            }
        }
        return true;
    }

    private static boolean isPolynomial(int k) {
        return k >= 0 && k < POLYNOMIALS;
    }

    private static boolean isIdeal(int i) {
        return i >= 0 && i < IDEALS;
    }

    private static void needPolynomial(int k) {
        if (!isPolynomial(k)) {
            throw new IndexOutOfBoundsException();
        }
    }

    private static void needIdeal(int i) {
        if (!isIdeal(i)) {
            throw new IndexOutOfBoundsException();
        }
    }

    private void needVariable(int v) {
        if (v < 0 || v >= ring.variables) {
            throw new IndexOutOfBoundsException();
        }
    }

    /**
     * The numbers modulo the prime, and the table of all monomials up to the highest degree.
     * The monomials are numbered from the least to the greatest, so that a polynomial is
     * a row of coefficients and its leading monomial the last one that is not 0.
     */
    private static final class Ring {
        /** 6 * 6 * 6 * 6: with 4 variables the codes are the most. */
        private static final int CODES = 1296;
        static final int DEGREES = 31;

        int prime = 2;
        int variables = 1;
        int order = 0;
        int highest = 0;
        int count = 0;
        final int[] degrees = new int[ROOM];
        /** How many monomials are of a degree up to this. */
        final int[] ends = new int[DEGREES];
        private final int[] exponents = new int[ROOM * VARIABLES];
        /** A monomial's code is its exponents as digits, so that a product's code is the codes' sum. */
        private final int[] codes = new int[ROOM];
        private final int[] weights = new int[VARIABLES];
        private final int[] places = new int[CODES];
        /** Of monomial m and variable v, at m * VARIABLES + v: their product, and m divided by v; NONE if the table has none. */
        private final int[] aboves = new int[ROOM * VARIABLES];
        private final int[] belows = new int[ROOM * VARIABLES];
        private final int[] hand = new int[VARIABLES];
        private final int[] powers = new int[DEGREES];

        Ring() {
        }

        void lay(int p, int n, int kind) {
            prime = p;
            variables = n;
            order = kind;
            highest = HIGHEST[n];
            count = 0;
            Arrays.fill(places, NONE);
            Arrays.fill(hand, 0);
            int weight = 1;
            for (int v = 0; v < VARIABLES; v++) {
                weights[v] = v < n ? weight : 0;
                weight *= v < n ? highest + 1 : 1;
            }
            for (int d = 0; d <= highest && d < DEGREES; d++) {
                layDegree(order == 0 ? n - 1 : 0, d);
                ends[d] = count;
            }
            linkNeighbours();
        }

        /** Gives the degree that is left to variable v and those that the order looks at later, least monomials first. */
        private void layDegree(int v, int left) {
            if (v < 0 || v >= variables) {
                return;
            }
            if (v == (order == 0 ? 0 : variables - 1)) {
                hand[v] = left;
                layMonomial();
                return;
            }
            for (int k = 0; k <= left; k++) {
                hand[v] = order == 0 ? left - k : k;
                layDegree(order == 0 ? v - 1 : v + 1, left - hand[v]);
            }
        }

        private void layMonomial() {
            if (count >= ROOM) {
                return;
            }
            int code = 0;
            int degree = 0;
            for (int v = 0; v < VARIABLES; v++) {
                exponents[count * VARIABLES + v] = hand[v];
                code += hand[v] * weights[v];
                degree += hand[v];
            }
            codes[count] = code;
            degrees[count] = degree;
            if (code < CODES) {
                places[code] = count;
            }
            count++;
        }

        private void linkNeighbours() {
            Arrays.fill(aboves, NONE);
            Arrays.fill(belows, NONE);
            for (int m = 0; m < count; m++) {
                for (int v = 0; v < variables && degrees[m] < highest; v++) {
                    int higher = placeOf(codes[m] + weights[v]);
                    aboves[m * VARIABLES + v] = higher;
                    if (higher != NONE) {
                        belows[higher * VARIABLES + v] = m;
                    }
                }
            }
        }

        private int placeOf(int code) {
            return code >= 0 && code < CODES ? places[code] : NONE;
        }

        int exponentOf(int m, int v) {
            return exponents[m * VARIABLES + v];
        }

        int above(int m, int v) {
            return aboves[m * VARIABLES + v];
        }

        int below(int m, int v) {
            return belows[m * VARIABLES + v];
        }

        int residue(int number) {
            return prime > 1 ? Math.floorMod(number, prime) : 0;
        }

        int negative(int number) {
            return number == 0 ? 0 : prime - number;
        }

        int power(int base, int exponent) {
            int answer = 1;
            int square = base;
            for (int rest = exponent; rest > 0; rest >>= 1) {
                if ((rest & 1) == 1) {
                    answer = residue(answer * square);
                }
                square = residue(square * square);
            }
            return answer;
        }

        int inverse(int number) {
            return power(number, prime - 2);
        }

        /** How many points there are of so many coordinates. */
        int points(int coordinates) {
            int answer = 1;
            for (int v = 0; v < coordinates && answer <= MOST_POINTS; v++) {
                answer *= prime;
            }
            return answer;
        }

        int topOf(int[] a) {
            for (int m = count - 1; m >= 0; m--) {
                if (a[m] != 0) {
                    return m;
                }
            }
            return NONE;
        }

        int degreeOf(int[] a) {
            int top = topOf(a);
            return top == NONE ? NONE : degrees[top];
        }

        int termsOf(int[] a) {
            int terms = 0;
            for (int m = 0; m < count; m++) {
                if (a[m] != 0) {
                    terms++;
                }
            }
            return terms;
        }

        int monomialOfTerm(int[] a, int i) {
            int left = i;
            for (int m = count - 1; m >= 0; m--) {
                if (a[m] != 0 && left-- == 0) {
                    return m;
                }
            }
            return NONE;
        }

        /** To a comes factor * b, of which only the first few monomials are looked at. */
        void addMultiple(int[] a, int factor, int[] b, int few) {
            int p = prime;
            if (p < 2 || factor == 0) {
                return;
            }
            for (int m = 0; m < few && m < ROOM; m++) {
                if (b[m] != 0) {
                    a[m] = (a[m] + factor * b[m]) % p;
                }
            }
        }

        boolean productFits(int[] a, int[] b) {
            int first = degreeOf(a);
            int second = degreeOf(b);
            return first == NONE || second == NONE || first + second <= highest;
        }

        /** For a and b whose product fits. */
        void productInto(int[] a, int[] b, int[] out) {
            Arrays.fill(out, 0);
            int p = prime;
            int most = topOf(b);
            for (int i = 0; i < count && p > 1; i++) {
                for (int j = 0; a[i] != 0 && j <= most; j++) {
                    int code = codes[i] + codes[j];
                    int m = b[j] != 0 && code < CODES ? places[code] : NONE;
                    if (m != NONE) {
                        out[m] = (out[m] + a[i] * b[j]) % p;
                    }
                }
            }
        }

        void raisedInto(int[] a, int v, int[] out) {
            Arrays.fill(out, 0);
            for (int m = 0; m < count; m++) {
                int to = a[m] == 0 ? NONE : aboves[m * VARIABLES + v];
                if (to != NONE) {
                    out[to] = a[m];
                }
            }
        }

        void derivativeInto(int[] a, int v, int[] out) {
            Arrays.fill(out, 0);
            for (int m = 0; m < count; m++) {
                int to = a[m] == 0 ? NONE : belows[m * VARIABLES + v];
                if (to != NONE) {
                    out[to] = residue(a[m] * exponents[m * VARIABLES + v]);
                }
            }
        }

        void substituteInto(int[] a, int v, int number, int[] out) {
            Arrays.fill(out, 0);
            powers[0] = 1;
            for (int e = 1; e <= highest && e < DEGREES; e++) {
                powers[e] = residue(powers[e - 1] * number);
            }
            for (int m = 0; m < count; m++) {
                if (a[m] == 0) {
                    continue;
                }
                int exponent = exponents[m * VARIABLES + v];
                int to = placeOf(codes[m] - exponent * weights[v]);
                if (to != NONE) {
                    out[to] = residue(out[to] + a[m] * powers[exponent]);
                }
            }
        }

        /** The coefficients of the powers of variable v alone, by the exponent: the greatest that is there, or NONE. */
        int lineInto(int[] a, int v, int[] line) {
            int top = NONE;
            for (int e = 0; e <= highest && e < DEGREES; e++) {
                int m = placeOf(e * weights[v]);
                line[e] = m == NONE ? 0 : a[m];
                top = line[e] == 0 ? top : e;
            }
            return top;
        }

        void widenInto(int[] a, Ring wide, int[] out) {
            Arrays.fill(out, 0);
            for (int m = 0; m < count; m++) {
                int to = a[m] == 0 ? NONE : wide.placeOf(wide.codeOf(this, m));
                if (to != NONE) {
                    out[to] = a[m];
                }
            }
        }

        /** 1 - t * a, with t the variable that only the wide ring has. */
        void inverterInto(int[] a, Ring wide, int[] out) {
            Arrays.fill(out, 0);
            out[0] = 1;
            for (int m = 0; m < count; m++) {
                int to = a[m] == 0 ? NONE : wide.placeOf(wide.codeOf(this, m) + wide.weights[wide.variables - 1]);
                if (to != NONE) {
                    out[to] = negative(a[m]);
                }
            }
        }

        private int codeOf(Ring other, int m) {
            int code = 0;
            for (int v = 0; v < VARIABLES; v++) {
                code += other.exponentOf(m, v) * weights[v];
            }
            return code;
        }
    }

    /** The bytes that are ready, the text in hand, and what it means. */
    private static final class TextReader {
        private static final int READY = 20;
        private static final int LONGEST = 400;
        private static final int DEEPEST = 20;
        private static final int NUMBER_DIGITS = 9;
        private static final int EXPONENT_DIGITS = 2;
        private static final int HIGHEST_EXPONENT_BIT = 6;

        private static final int MISPLACED = 1;
        private static final int TOO_DEEP = 2;
        private static final int TOO_HIGH = 3;
        private static final int TOO_LONG = 4;

        int faultKind = 0;
        int faultPlace = NONE;
        private final Ring ring;
        private final int[] ready = new int[READY];
        private final int[] text = new int[LONGEST];
        private int length = 0;
        private int at = 0;
        /** Of each depth of ( ) the sum, the term and the factor that are being read. */
        private final int[][] sums = new int[DEEPEST + 1][ROOM];
        private final int[][] terms = new int[DEEPEST + 1][ROOM];
        private final int[][] factors = new int[DEEPEST + 1][ROOM];
        private final int[] base = new int[ROOM];
        private final int[] product = new int[ROOM];

        TextReader(Ring ring) {
            this.ring = ring;
        }

        void makeReady(int from, int word) {
            for (int k = 0; k < 4 && from + k < READY; k++) {
                ready[from + k] = (word >>> (24 - 8 * k)) & 255;
            }
        }

        int lengthen(int n) {
            if (n < 0 || n > READY || length + n > LONGEST) {
                return NONE;
            }
            System.arraycopy(ready, 0, text, length, n);
            length += n;
            Arrays.fill(ready, 0);
            return length;
        }

        /** Whether the text in hand has no fault; if so its polynomial comes to out. The text is gone in any case. */
        boolean understand(int[] out) {
            faultKind = 0;
            faultPlace = NONE;
            at = 0;
            takeSum(0);
            if (faultKind == 0 && at < length) {
                blame(MISPLACED, at);
            }
            length = 0;
            if (faultKind != 0) {
                return false;
            }
            System.arraycopy(sums[0], 0, out, 0, ROOM);
            return true;
        }

        private void blame(int kind, int place) {
            faultKind = kind;
            faultPlace = place;
        }

        private boolean isNext(int what) {
            return at < length && text[at] == what;
        }

        private boolean isDigitNext() {
            return at < length && text[at] >= '0' && text[at] <= '9';
        }

        private void skipSpaces() {
            while (at < length && text[at] == ' ') {
                at++;
            }
        }

        private void takeSum(int depth) {
            int[] sum = sums[depth];
            Arrays.fill(sum, 0);
            skipSpaces();
            boolean minus = isNext('-');
            if (minus) {
                at++;
            }
            for (int k = 0; k <= LONGEST; k++) {
                takeTerm(depth);
                if (faultKind != 0) {
                    return;
                }
                ring.addMultiple(sum, minus ? ring.prime - 1 : 1, terms[depth], ring.count);
                minus = isNext('-');
                if (!minus && !isNext('+')) {
                    return;
                }
                at++;
            }
        }

        /** Spaces behind the term are taken, too. */
        private void takeTerm(int depth) {
            int[] term = terms[depth];
            takeFactor(depth);
            System.arraycopy(factors[depth], 0, term, 0, ROOM);
            for (int k = 0; k <= LONGEST && faultKind == 0 && isNext('*'); k++) {
                int star = at;
                at++;
                takeFactor(depth);
                if (faultKind == 0 && !ring.productFits(term, factors[depth])) {
                    blame(TOO_HIGH, star);
                }
                if (faultKind == 0) {
                    ring.productInto(term, factors[depth], product);
                    System.arraycopy(product, 0, term, 0, ROOM);
                }
            }
        }

        /** Spaces behind the factor are taken, too. */
        private void takeFactor(int depth) {
            int[] factor = factors[depth];
            Arrays.fill(factor, 0);
            skipSpaces();
            int variable = variableNext();
            if (isDigitNext()) {
                factor[0] = ring.residue(takeNumber(NUMBER_DIGITS));
            } else if (variable != NONE) {
                factor[ring.above(0, variable)] = 1;
                at++;
            } else if (isNext('(')) {
                takeBrackets(depth);
            } else {
                blame(MISPLACED, at);
            }
            if (faultKind == 0) {
                skipSpaces();
            }
            if (faultKind == 0 && isNext('^')) {
                takePower(factor);
                skipSpaces();
            }
        }

        private int variableNext() {
            for (int v = 0; v < ring.variables; v++) {
                if (isNext(letterOf(v)) && ring.above(0, v) != NONE) {
                    return v;
                }
            }
            return NONE;
        }

        private void takeBrackets(int depth) {
            if (depth >= DEEPEST) {
                blame(TOO_DEEP, at);
                return;
            }
            at++;
            takeSum(depth + 1);
            if (faultKind != 0) {
                return;
            }
            if (!isNext(')')) {
                blame(MISPLACED, at);
                return;
            }
            at++;
            System.arraycopy(sums[depth + 1], 0, factors[depth], 0, ROOM);
        }

        private int takeNumber(int mostDigits) {
            int from = at;
            int number = 0;
            while (at < length && isDigitNext()) {
                number = at - from < mostDigits ? number * 10 + (text[at] - '0') : number;
                at++;
            }
            if (at - from > mostDigits) {
                blame(TOO_LONG, from);
            }
            return number;
        }

        private void takePower(int[] factor) {
            int hat = at;
            at++;
            skipSpaces();
            if (!isDigitNext()) {
                blame(MISPLACED, at);
                return;
            }
            int exponent = takeNumber(EXPONENT_DIGITS);
            if (faultKind == 0 && ring.degreeOf(factor) * exponent > ring.highest) {
                blame(TOO_HIGH, hat);
            }
            if (faultKind == 0) {
                raise(factor, exponent);
            }
        }

        /** Squares from the exponent's highest bit on, so that nothing on the way is of a higher degree than the end. */
        private void raise(int[] factor, int exponent) {
            System.arraycopy(factor, 0, base, 0, ROOM);
            Arrays.fill(factor, 0);
            factor[0] = 1;
            for (int bit = HIGHEST_EXPONENT_BIT; bit >= 0; bit--) {
                ring.productInto(factor, factor, product);
                if (((exponent >> bit) & 1) == 1) {
                    ring.productInto(product, base, factor);
                } else {
                    System.arraycopy(product, 0, factor, 0, ROOM);
                }
            }
        }

        static int letterOf(int v) {
            return v < 3 ? 'x' + v : 'w';
        }
    }

    /** The output: a polynomial as text. */
    private static final class Printer {
        /** 120 terms of 3 variables, the longest like +32002*x^3*y^2*z^2. */
        private static final int LONGEST = 120 * 18;

        private final Ring ring;
        private final byte[] bytes = new byte[LONGEST];
        private int length = 0;

        Printer(Ring ring) {
            this.ring = ring;
        }

        void forget() {
            length = 0;
        }

        int byteAt(int i) {
            return i >= 0 && i < length ? bytes[i] : NONE;
        }

        int write(int[] a) {
            length = 0;
            for (int m = ring.count - 1; m >= 0; m--) {
                if (a[m] != 0) {
                    writeTerm(a[m], m);
                }
            }
            if (length == 0) {
                writeByte('0');
            }
            return length;
        }

        private void writeTerm(int coefficient, int m) {
            if (length > 0) {
                writeByte('+');
            }
            boolean started = coefficient != 1 || m == 0;
            if (started) {
                writeNumber(coefficient);
            }
            for (int v = 0; v < ring.variables; v++) {
                int exponent = ring.exponentOf(m, v);
                if (exponent == 0) {
                    continue;
                }
                if (started) {
                    writeByte('*');
                }
                started = true;
                writeByte(TextReader.letterOf(v));
                if (exponent > 1) {
                    writeByte('^');
                    writeNumber(exponent);
                }
            }
        }

        private void writeNumber(int number) {
            boolean started = false;
            for (int unit = 10000; unit > 0; unit /= 10) {
                int digit = number / unit % 10;
                started = started || digit > 0 || unit == 1;
                if (started) {
                    writeByte('0' + digit);
                }
            }
        }

        private void writeByte(int what) {
            if (length < LONGEST) {
                bytes[length] = (byte) what;
                length++;
            }
        }
    }

    /**
     * The space of some generators up to a degree, as rows of which each has a leading monomial
     * of its own with coefficient 1. Beside each row stands how it was made, so that what
     * is in the space can be proved from the generators.
     */
    private static final class Space {
        int bound = 0;
        private int made = 0;
        /** So many rows, the first ones, were made again as they are told to be, and came out the same. */
        private int checked = 0;
        private final int[][] rows = new int[ROOM][ROOM];
        private final int[] leads = new int[ROOM];
        private final int[] rowOfLead = new int[ROOM];
        /** Row k is: its source less recipes[k][t] of each earlier row t, times its scale. */
        private final int[] sources = new int[ROOM];
        private final int[][] recipes = new int[ROOM][ROOM];
        private final int[] scales = new int[ROOM];
        private final int[] work = new int[ROOM];
        /** How much of each row the latest reduce() took from work. */
        private final int[] shares = new int[ROOM];

        Space() {
        }

        boolean isLead(int m) {
            return rowOfLead[m] != NONE;
        }

        void build(Ring ring, int[][] generators, int generatorCount, int d) {
            bound = d;
            made = 0;
            checked = 0;
            Arrays.fill(rowOfLead, NONE);
            for (int g = 0; g < generatorCount; g++) {
                if (loadSource(ring, generators, sourceOfGenerator(g))) {
                    takeIn(ring, sourceOfGenerator(g));
                }
            }
            for (int k = 0; k < made && k < ROOM; k++) {
                for (int v = 0; v < ring.variables && made < ring.ends[bound]; v++) {
                    if (loadSource(ring, generators, sourceOfProduct(k, v))) {
                        takeIn(ring, sourceOfProduct(k, v));
                    }
                }
            }
        }

        private static int sourceOfGenerator(int g) {
            return -1 - g;
        }

        private static int sourceOfProduct(int row, int v) {
            return row * VARIABLES + v;
        }

        /** Puts a generator, or a row times a variable, into work, unless that is above the degree. */
        private boolean loadSource(Ring ring, int[][] generators, int source) {
            if (source < 0) {
                int[] generator = generators[-1 - source];
                System.arraycopy(generator, 0, work, 0, ROOM);
                return ring.degreeOf(generator) <= bound;
            }
            int row = source / VARIABLES;
            ring.raisedInto(rows[row], source % VARIABLES, work);
            return ring.degrees[leads[row]] < bound;
        }

        /**
         * Takes rows from work: all that can be, or only until its leading monomial is no row's.
         * The leading monomial of what is left, as far as it was looked for; NONE if nothing is left.
         */
        private int reduce(Ring ring, boolean all) {
            Arrays.fill(shares, 0);
            int rest = NONE;
            for (int m = ring.ends[bound] - 1; m >= 0; m--) {
                int coefficient = work[m];
                int row = rowOfLead[m];
                if (coefficient != 0 && row != NONE) {
                    shares[row] = coefficient;
                    ring.addMultiple(work, ring.negative(coefficient), rows[row], m + 1);
                } else if (coefficient != 0 && rest == NONE) {
                    rest = m;
                }
                if (rest != NONE && !all) {
                    return rest;
                }
            }
            return rest;
        }

        private void takeIn(Ring ring, int source) {
            int lead = reduce(ring, false);
            if (lead == NONE || made >= ROOM) {
                return;
            }
            scales[made] = ring.inverse(work[lead]);
            Arrays.fill(rows[made], 0);
            ring.addMultiple(rows[made], scales[made], work, lead + 1);
            System.arraycopy(shares, 0, recipes[made], 0, ROOM);
            sources[made] = source;
            leads[made] = lead;
            rowOfLead[lead] = made;
            made++;
        }

        int gapsOfDegree(Ring ring, int d) {
            if (d < 0 || d > bound) {
                return NONE;
            }
            int gaps = 0;
            for (int m = d == 0 ? 0 : ring.ends[d - 1]; m < ring.ends[d]; m++) {
                if (!isLead(m)) {
                    gaps++;
                }
            }
            return gaps;
        }

        /** The one polynomial of the space with this leading monomial that has no other one of the space's. */
        void reducedInto(Ring ring, int lead, int[] out) {
            Arrays.fill(out, 0);
            int row = rowOfLead[lead];
            if (row == NONE) {
                return;
            }
            System.arraycopy(rows[row], 0, work, 0, ROOM);
            work[lead] = 0;
            reduce(ring, true);
            System.arraycopy(work, 0, out, 0, ROOM);
            out[lead] = 1;
        }

        /** Whether the remainder is 0. */
        boolean remainderInto(Ring ring, int[] a, int[] out) {
            System.arraycopy(a, 0, work, 0, ROOM);
            boolean isIn = reduce(ring, true) == NONE;
            System.arraycopy(work, 0, out, 0, ROOM);
            return isIn;
        }

        /** Reckons out the proof that a, whose remainder was found to be 0 just now, is in the space. */
        boolean proves(Ring ring, int[][] generators, int[] a) {
            for (int k = 0; k < made; k++) {
                if (shares[k] != 0 && !checkUpTo(ring, generators, k)) {
                    return false;
                }
            }
            Arrays.fill(work, 0);
            for (int k = 0; k < made; k++) {
                ring.addMultiple(work, shares[k], rows[k], leads[k] + 1);
            }
            return same(work, a);
        }

        private boolean checkUpTo(Ring ring, int[][] generators, int row) {
            while (checked <= row && checked < made) {
                if (!isAsTold(ring, generators, checked)) {
                    return false;
                }
                checked++;
            }
            return true;
        }

        private boolean isAsTold(Ring ring, int[][] generators, int row) {
            if (!loadSource(ring, generators, sources[row])) {
                return false;
            }
            for (int t = 0; t < row; t++) {
                ring.addMultiple(work, ring.negative(recipes[row][t]), rows[t], leads[t] + 1);
            }
            for (int m = 0; m < ring.count; m++) {
                work[m] = ring.residue(work[m] * scales[row]);
            }
            return same(work, rows[row]);
        }

        private static boolean same(int[] a, int[] b) {
            for (int m = 0; m < ROOM; m++) {
                if (a[m] != b[m]) {
                    return false;
                }
            }
            return true;
        }
    }

    /** Generators, and the basis up to a degree if it has been found. */
    private static final class Ideal {
        /** One more than the document's, since radical() adds one to a full ideal. */
        private static final int SLOTS = GENERATORS + 1;

        final int[][] generators = new int[SLOTS][ROOM];
        int generatorCount = 0;
        boolean hasBasis = false;
        boolean complete = false;
        final Space space = new Space();
        /** The leading monomials of the basis, the least first. */
        final int[] corners = new int[ROOM];
        int cornerCount = 0;

        Ideal() {
        }

        void forget() {
            generatorCount = 0;
            hasBasis = false;
        }

        void append(int[] a) {
            if (generatorCount < SLOTS) {
                System.arraycopy(a, 0, generators[generatorCount], 0, ROOM);
                generatorCount++;
                hasBasis = false;
            }
        }

        void appendAll(Ideal other) {
            for (int g = 0; g < other.generatorCount; g++) {
                append(other.generators[g]);
            }
        }

        int greatestDegree(Ring ring) {
            int greatest = NONE;
            for (int g = 0; g < generatorCount; g++) {
                greatest = Math.max(greatest, ring.degreeOf(generators[g]));
            }
            return greatest;
        }

        void findBasis(Ring ring, int d) {
            space.build(ring, generators, generatorCount, d);
            cornerCount = 0;
            for (int m = 0; m < ring.ends[d]; m++) {
                if (isCorner(ring, m)) {
                    corners[cornerCount] = m;
                    cornerCount++;
                }
            }
            complete = greatestDegree(ring) <= d && pairsAreLow(ring);
            hasBasis = true;
        }

        /** It is enough to look one degree below, since all multiples of a leading monomial are leading ones. */
        private boolean isCorner(Ring ring, int m) {
            if (!space.isLead(m)) {
                return false;
            }
            for (int v = 0; v < ring.variables; v++) {
                int lower = ring.below(m, v);
                if (lower != NONE && space.isLead(lower)) {
                    return false;
                }
            }
            return true;
        }

        private boolean pairsAreLow(Ring ring) {
            for (int i = 0; i < cornerCount; i++) {
                for (int j = 0; j < i; j++) {
                    if (!isLowPair(ring, corners[i], corners[j])) {
                        return false;
                    }
                }
            }
            return true;
        }

        private boolean isLowPair(Ring ring, int a, int b) {
            int common = 0;
            for (int v = 0; v < ring.variables; v++) {
                common += Math.max(ring.exponentOf(a, v), ring.exponentOf(b, v));
            }
            return common <= space.bound || common == ring.degrees[a] + ring.degrees[b];
        }

        int dimension(Ring ring) {
            int greatest = NONE;
            for (int chosen = 0; chosen < 1 << ring.variables; chosen++) {
                if (isFree(ring, chosen)) {
                    greatest = Math.max(greatest, Integer.bitCount(chosen));
                }
            }
            return greatest;
        }

        /** Whether no leading monomial is made of the chosen variables alone. */
        private boolean isFree(Ring ring, int chosen) {
            for (int k = 0; k < cornerCount; k++) {
                int used = 0;
                for (int v = 0; v < ring.variables; v++) {
                    used |= ring.exponentOf(corners[k], v) > 0 ? 1 << v : 0;
                }
                if ((used & ~chosen) == 0) {
                    return false;
                }
            }
            return true;
        }
    }

    /**
     * Monomials of any degree that a quotient of at most 40 monomials leads to: four exponents
     * up to 40 in one number, the first variable's highest, so that a dictionary's order is
     * the order of the numbers.
     */
    private static final class Packed {
        private static final int BITS = 6;
        private static final int MASK = 63;

        private Packed() {
        }

        static int variable(int v) {
            return 1 << (BITS * (VARIABLES - 1 - v));
        }

        static int exponent(int packed, int v) {
            return (packed >> (BITS * (VARIABLES - 1 - v))) & MASK;
        }

        static int degree(int packed) {
            int degree = 0;
            for (int v = 0; v < VARIABLES; v++) {
                degree += exponent(packed, v);
            }
            return degree;
        }

        static boolean divides(int divisor, int packed) {
            for (int v = 0; v < VARIABLES; v++) {
                if (exponent(divisor, v) > exponent(packed, v)) {
                    return false;
                }
            }
            return true;
        }

        static int pack(Ring ring, int m) {
            int packed = 0;
            for (int v = 0; v < VARIABLES; v++) {
                packed += ring.exponentOf(m, v) * variable(v);
            }
            return packed;
        }

        static boolean isLess(int a, int b, int order) {
            int difference = degree(a) - degree(b);
            if (difference != 0 || order != 0) {
                return difference < 0 || (difference == 0 && a < b);
            }
            for (int v = VARIABLES - 1; v >= 0; v--) {
                int further = exponent(a, v) - exponent(b, v);
                if (further != 0) {
                    return further > 0;
                }
            }
            return false;
        }

        static int find(int[] list, int size, int packed) {
            for (int k = 0; k < size; k++) {
                if (list[k] == packed) {
                    return k;
                }
            }
            return NONE;
        }
    }

    /**
     * The polynomials modulo an ideal of a complete basis: rows of coefficients of the standard
     * monomials, and what the products of these with variables are.
     */
    private static final class Quotient {
        static final int MOST = 40;
        static final int MOST_PRODUCTS = MOST * VARIABLES;

        int size = 0;
        private final int[] standards = new int[MOST];
        private int cornerCount = 0;
        private final int[] corners = new int[ROOM];
        /** Products of standard monomials with variables that are no standard ones, the least first. */
        private int borderSize = 0;
        private final int[] border = new int[MOST_PRODUCTS];
        private final int[][] forms = new int[MOST_PRODUCTS][MOST];
        /** Of a standard monomial with a variable: which standard one that is, or MOST and which one of the border. */
        private final int[] products = new int[MOST_PRODUCTS];
        private final int[] polynomial = new int[ROOM];

        Quotient() {
        }

        /** Whether there are few enough standard monomials. 1 must be one of them. */
        boolean gather(Ring ring, Ideal of) {
            cornerCount = of.cornerCount;
            for (int k = 0; k < cornerCount; k++) {
                corners[k] = Packed.pack(ring, of.corners[k]);
            }
            standards[0] = 0;
            size = 1;
            for (int s = 0; s < size && s < MOST; s++) {
                if (!gatherAbove(ring, standards[s])) {
                    return false;
                }
            }
            return true;
        }

        /** Only products with the last variable or a later one, so that each monomial comes once. */
        private boolean gatherAbove(Ring ring, int packed) {
            for (int v = lastVariable(packed); v < ring.variables; v++) {
                int product = packed + Packed.variable(v);
                if (!isStandard(product)) {
                    continue;
                }
                if (size >= MOST) {
                    return false;
                }
                standards[size] = product;
                size++;
            }
            return true;
        }

        private static int lastVariable(int packed) {
            int last = 0;
            for (int v = 0; v < VARIABLES; v++) {
                last = Packed.exponent(packed, v) > 0 ? v : last;
            }
            return last;
        }

        private boolean isStandard(int packed) {
            for (int k = 0; k < cornerCount; k++) {
                if (Packed.divides(corners[k], packed)) {
                    return false;
                }
            }
            return true;
        }

        /** In the order of monomials, since each form is had from those of lesser ones. */
        void findForms(Ring ring, Ideal of) {
            gatherBorder(ring);
            findProducts(ring);
            for (int b = 0; b < borderSize; b++) {
                Arrays.fill(forms[b], 0);
                int corner = Packed.find(corners, cornerCount, border[b]);
                if (corner == NONE) {
                    formFromBelow(ring, b);
                } else {
                    formFromBasis(ring, of, of.corners[corner], b);
                }
            }
        }

        private void gatherBorder(Ring ring) {
            borderSize = 0;
            for (int s = 0; s < size; s++) {
                for (int v = 0; v < ring.variables; v++) {
                    int product = standards[s] + Packed.variable(v);
                    if (!isStandard(product) && Packed.find(border, borderSize, product) == NONE) {
                        insert(product, ring.order);
                    }
                }
            }
        }

        private void findProducts(Ring ring) {
            for (int s = 0; s < size; s++) {
                for (int v = 0; v < ring.variables; v++) {
                    int product = standards[s] + Packed.variable(v);
                    int plain = Packed.find(standards, size, product);
                    int b = Packed.find(border, borderSize, product);
                    products[s * VARIABLES + v] = plain == NONE ? MOST + b : plain;
                }
            }
        }

        private void insert(int product, int order) {
            if (borderSize >= MOST_PRODUCTS) {
                return;
            }
            int place = borderSize;
            while (place > 0 && Packed.isLess(product, border[place - 1], order)) {
                border[place] = border[place - 1];
                place--;
            }
            border[place] = product;
            borderSize++;
        }

        private void formFromBasis(Ring ring, Ideal of, int lead, int b) {
            of.space.reducedInto(ring, lead, polynomial);
            for (int m = 0; m < lead; m++) {
                int s = polynomial[m] == 0 ? NONE : Packed.find(standards, size, Packed.pack(ring, m));
                if (s != NONE) {
                    forms[b][s] = ring.negative(polynomial[m]);
                }
            }
        }

        private void formFromBelow(Ring ring, int b) {
            for (int v = 0; v < ring.variables; v++) {
                int lower = border[b] - Packed.variable(v);
                int from = Packed.exponent(border[b], v) == 0 ? NONE : Packed.find(border, b, lower);
                if (from != NONE) {
                    timesInto(ring, forms[from], v, forms[b]);
                    return;
                }
            }
        }

        void timesInto(Ring ring, int[] row, int v, int[] out) {
            Arrays.fill(out, 0);
            for (int s = 0; s < size; s++) {
                if (row[s] == 0) {
                    continue;
                }
                int product = products[s * VARIABLES + v];
                if (product >= MOST) {
                    addRow(ring, out, row[s], forms[product - MOST]);
                } else {
                    out[product] = ring.residue(out[product] + row[s]);
                }
            }
        }

        static void addRow(Ring ring, int[] a, int factor, int[] b) {
            int p = ring.prime;
            for (int s = 0; s < MOST && p > 1; s++) {
                if (b[s] != 0) {
                    a[s] = (a[s] + factor * b[s]) % p;
                }
            }
        }
    }

    /**
     * The latest dictionary. Its monomials are gone through from the least on: each is either
     * the sum of lesser ones modulo the ideal, which makes a polynomial, or it is one of the
     * dictionary's own standard monomials.
     */
    private static final class Lexicon {
        private static final int MOST = Quotient.MOST;
        private static final int MOST_QUEUED = Quotient.MOST_PRODUCTS + 1;

        private int variables = 0;
        private int headCount = 0;
        private final int[] heads = new int[MOST_QUEUED];
        /** Beside each leading monomial the coefficients of the standard ones. */
        private final int[][] tails = new int[MOST_QUEUED][MOST];
        private int smallCount = 0;
        private final int[] smalls = new int[MOST];
        private final int[][] smallRows = new int[MOST][MOST];
        /** The standard monomials' rows with a pivot for each, and the sums of rows that they are. */
        private final int[][] pivotRows = new int[MOST][MOST];
        private final int[][] pivotSums = new int[MOST][MOST];
        private final int[] pivots = new int[MOST];
        private int queued = 0;
        private final int[] queue = new int[MOST_QUEUED];
        private final int[] queueOrigins = new int[MOST_QUEUED];
        /** The monomial that is looked at, modulo the ideal, and what is left of it behind the pivots. */
        private final int[] wholeRow = new int[MOST];
        private final int[] row = new int[MOST];
        private final int[] sum = new int[MOST];

        Lexicon() {
        }

        int compile(Ring ring, Quotient quotient) {
            variables = ring.variables;
            headCount = 0;
            smallCount = 0;
            queue[0] = 0;
            queueOrigins[0] = NONE;
            queued = 1;
            for (int k = 0; k < MOST_QUEUED && queued > 0; k++) {
                takeLeast(ring, quotient);
            }
            return headCount;
        }

        private void takeLeast(Ring ring, Quotient quotient) {
            int least = 0;
            for (int k = 1; k < queued; k++) {
                least = queue[k] < queue[least] ? k : least;
            }
            int packed = queue[least];
            int origin = queueOrigins[least];
            queued--;
            queue[least] = queue[queued];
            queueOrigins[least] = queueOrigins[queued];
            if (isDone(packed)) {
                return;
            }
            loadRow(ring, quotient, origin);
            int pivot = eliminate(ring);
            if (pivot == NONE) {
                keepHead(packed);
            } else if (smallCount < MOST) {
                keepSmall(ring, packed, pivot);
            }
        }

        private boolean isDone(int packed) {
            for (int k = 0; k < headCount; k++) {
                if (Packed.divides(heads[k], packed)) {
                    return true;
                }
            }
            return Packed.find(smalls, smallCount, packed) != NONE;
        }

        private void loadRow(Ring ring, Quotient quotient, int origin) {
            if (origin == NONE) {
                Arrays.fill(wholeRow, 0);
                wholeRow[0] = 1;
            } else {
                quotient.timesInto(ring, smallRows[origin / VARIABLES], origin % VARIABLES, wholeRow);
            }
        }

        /** Takes the pivot rows from row; sum tells what came of the standard monomials. The first place that is left, or NONE. */
        private int eliminate(Ring ring) {
            System.arraycopy(wholeRow, 0, row, 0, MOST);
            Arrays.fill(sum, 0);
            for (int k = 0; k < smallCount; k++) {
                int factor = ring.negative(row[pivots[k]]);
                if (factor != 0) {
                    Quotient.addRow(ring, row, factor, pivotRows[k]);
                    Quotient.addRow(ring, sum, factor, pivotSums[k]);
                }
            }
            for (int s = 0; s < MOST; s++) {
                if (row[s] != 0) {
                    return s;
                }
            }
            return NONE;
        }

        private void keepHead(int packed) {
            if (headCount < MOST_QUEUED) {
                heads[headCount] = packed;
                System.arraycopy(sum, 0, tails[headCount], 0, MOST);
                headCount++;
            }
        }

        private void keepSmall(Ring ring, int packed, int pivot) {
            int scale = ring.inverse(row[pivot]);
            sum[smallCount] = 1;
            System.arraycopy(wholeRow, 0, smallRows[smallCount], 0, MOST);
            Arrays.fill(pivotRows[smallCount], 0);
            Quotient.addRow(ring, pivotRows[smallCount], scale, row);
            Arrays.fill(pivotSums[smallCount], 0);
            Quotient.addRow(ring, pivotSums[smallCount], scale, sum);
            pivots[smallCount] = pivot;
            smalls[smallCount] = packed;
            for (int v = 0; v < variables && queued < MOST_QUEUED; v++) {
                queue[queued] = packed + Packed.variable(v);
                queueOrigins[queued] = smallCount * VARIABLES + v;
                queued++;
            }
            smallCount++;
        }

        int look(int k, int j, int what) {
            if (k < 0 || k >= headCount || j < 0 || what < 0 || what > VARIABLES) {
                return NONE;
            }
            if (j == 0) {
                return what < VARIABLES ? Packed.exponent(heads[k], what) : 1;
            }
            int left = j - 1;
            for (int s = smallCount - 1; s >= 0; s--) {
                if (tails[k][s] != 0 && left-- == 0) {
                    return what < VARIABLES ? Packed.exponent(smalls[s], what) : tails[k][s];
                }
            }
            return NONE;
        }
    }

    /** The common zeros: the first ones of the latest search. */
    private static final class ZeroFinder {
        private static final int KEPT = 200;

        private int variables = 0;
        private int found = 0;
        private final int[] kept = new int[KEPT * VARIABLES];
        private final int[] point = new int[VARIABLES];
        /** At v * GENERATORS + g: generator g with the point's numbers in the place of all variables ahead of v. */
        private final int[][] stages = new int[VARIABLES * GENERATORS][ROOM];
        private int generatorCount = 0;
        /** The generators as polynomials of the last variable alone, and their degrees. */
        private final int[][] lines = new int[GENERATORS][Ring.DEGREES];
        private final int[] lineTops = new int[GENERATORS];

        ZeroFinder() {
        }

        int search(Ring ring, Ideal of) {
            variables = ring.variables;
            found = 0;
            generatorCount = Math.min(of.generatorCount, GENERATORS);
            for (int g = 0; g < generatorCount; g++) {
                System.arraycopy(of.generators[g], 0, stages[g], 0, ROOM);
            }
            searchFrom(ring, 0);
            return found;
        }

        /** Goes through all numbers for variable v and those behind it. */
        private void searchFrom(Ring ring, int v) {
            if (v < 0 || v >= variables) {
                return;
            }
            if (v == variables - 1) {
                searchLine(ring, v);
                return;
            }
            for (int number = 0; number < ring.prime; number++) {
                point[v] = number;
                for (int g = 0; g < generatorCount; g++) {
                    int from = v * GENERATORS + g;
                    ring.substituteInto(stages[from], v, number, stages[from + GENERATORS]);
                }
                searchFrom(ring, v + 1);
            }
        }

        private void searchLine(Ring ring, int v) {
            for (int g = 0; g < generatorCount; g++) {
                lineTops[g] = ring.lineInto(stages[v * GENERATORS + g], v, lines[g]);
            }
            for (int number = 0; number < ring.prime; number++) {
                if (isZeroOfLines(ring.prime, number)) {
                    point[v] = number;
                    keepPoint();
                }
            }
        }

        private boolean isZeroOfLines(int p, int number) {
            for (int g = 0; g < generatorCount && p > 1; g++) {
                int[] line = lines[g];
                int value = 0;
                for (int e = lineTops[g]; e >= 0; e--) {
                    value = (value * number + line[e]) % p;
                }
                if (value != 0) {
                    return false;
                }
            }
            return true;
        }

        private void keepPoint() {
            if (found < KEPT) {
                System.arraycopy(point, 0, kept, found * VARIABLES, VARIABLES);
            }
            found++;
        }

        int coordinate(int k, int v) {
            boolean known = k >= 0 && k < found && k < KEPT && v >= 0 && v < variables;
            return known ? kept[k * VARIABLES + v] : NONE;
        }
    }
}
