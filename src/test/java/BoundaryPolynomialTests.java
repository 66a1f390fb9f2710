import java.util.ArrayList;
import java.util.List;

/** Each sentence of promises 1 to 14, with the boundary cases that it names: text, polynomials, output. */
public final class BoundaryPolynomialTests extends Bench {

    private static IdealWorks rich() {
        return rich(7, 2, 0);
    }

    // ---- promise 1 ----

    private static void newObject() {
        sentence(1, "P is 7, N is 2, ORDER 0.", () -> {
            IdealWorks x = new IdealWorks();
            poly(x, 0, "6*x+7*y+8");
            due("modulo 7", shown(x, 0), "6*x+1");
            due("49 points", x.zeros(0), 49);
            text(x, "z");
            refused("a third variable", ARGUMENT, () -> x.read(0));
            refused("variable 2", INDEX, () -> x.derive(0, 2, 1));
            refused("variable 1", NOTHING, () -> x.derive(0, 1, 1));
            refused("up to 12", NOTHING, () -> x.basis(0, 12));
            refused("up to 13", ARGUMENT, () -> x.basis(0, 13));
            poly(x, 0, "y^2+x*y+x^2");
            due("both orders are one with 2 variables", shown(x, 0), "x^2+x*y+y^2");
        });
        sentence(1, "No text in hand, all polynomials are 0, no generators.", () -> {
            IdealWorks x = new IdealWorks();
            due("no text", x.end(0), 0);
            for (int k = 0; k < 16; k++) {
                due("terms of " + k, x.about(k, 0), 0);
                due("degree of " + k, x.about(k, 1), NONE);
            }
            for (int i = 0; i < 4; i++) {
                due("no basis", x.ideal(i, 0), NONE);
                due("generators of " + i, generators(x, i), 0);
            }
        });
    }

    // ---- promise 2 ----

    private static boolean isPrime(int p) {
        for (int k = 2; k < p; k++) {
            if (p % k == 0) {
                return false;
            }
        }
        return p >= 2;
    }

    private static void field() {
        sentence(2, "P, N, ORDER; all polynomials are 0, ideals have no generators, there is no output.", () -> {
            IdealWorks x = rich();
            for (int k = 4; k < 16; k++) {
                x.add(0, 1, 1, k);
            }
            x.field(7, 2, 0);
            for (int k = 0; k < 16; k++) {
                due("terms of " + k, x.about(k, 0), 0);
            }
            due("no output", x.output(0), NONE);
            x.read(0);
            for (int i = 0; i < 4; i++) {
                due("no basis of " + i, x.ideal(i, 0), NONE);
                due("generators of " + i, generators(x, i), 0);
            }
            for (int n = 1; n <= 4; n++) {
                x.field(3, n, 1);
                due("3 to the power of " + n, x.zeros(0), new int[] {0, 3, 9, 27, 81}[n]);
            }
        });
        sentence(2, "(All else stays: text in hand, bytes that are ready, what fault(), entry(), zero(), proved() tell.)", () -> {
            for (int n = 1; n <= 4; n++) {
                IdealWorks x = rich();
                x.field(32003, n, 1);
                due("fault(0)", x.fault(0), 1);
                due("fault(1)", x.fault(1), 2);
                due("proved()", x.proved(), 1);
                due("entry()", entries(x, 0), "1:0,2,0,0 6:0,0,0,0 ");
                due("entry()", entries(x, 1), "1:1,0,0,0 2:0,1,0,0 ");
                due("zero()", point(x, 0, 3) + " " + point(x, 1, 3) + " " + x.zero(2, 0), "2,6,-1 5,1,-1 -1");
                due("text and bytes", x.end(1), 2);
                ready(x, n == 1 ? "1" : "y");
                due("text and bytes", x.end(1), 3);
                due("text and bytes", x.read(0), 2);
                due("text and bytes", shown(x, 0), n == 1 ? "x+1" : "x+y");
            }
        });
        sentence(2, "IllegalArgumentException: P is no prime up to 32003, N not 1 .. 4, ORDER not 0 or 1.", () -> {
            IdealWorks[] x = {null};
            for (int p = -300; p <= 32300; p++) {
                if ((p + 300) % 500 == 0) {
                    x[0] = new IdealWorks();
                }
                int q = p;
                if (p < 400 || p > 31900 || p % 97 == 0 || isPrime(p)) {
                    boolean fine = isPrime(p) && p <= 32003;
                    refused("P " + p, fine ? NOTHING : ARGUMENT, () -> x[0].field(q, 1, 0));
                }
            }
            for (int p : new int[] {173 * 173, 173 * 179, 167 * 191, 32003 * 2, 32003 * 3, 65537, MOST, LEAST, LEAST + 2, 2 - 32003, -7}) {
                refusedInVain("P " + p, ARGUMENT, BoundaryPolynomialTests::rich, y -> y.field(p, 2, 0));
            }
            for (int n : new int[] {0, 5, -1, LEAST, MOST}) {
                refusedInVain("N " + n, ARGUMENT, BoundaryPolynomialTests::rich, y -> y.field(7, n, 0));
            }
            for (int order : new int[] {-1, 2, LEAST, MOST}) {
                refusedInVain("ORDER " + order, ARGUMENT, BoundaryPolynomialTests::rich, y -> y.field(7, 2, order));
            }
            for (int n = 1; n <= 4; n++) {
                int m = n;
                refused("N " + n + ", ORDER 0", NOTHING, () -> works(7, m, 0));
                refused("N " + n + ", ORDER 1", NOTHING, () -> works(7, m, 1));
            }
        });
    }

    // ---- promises 3 and 4 ----

    private static void feed() {
        sentence(3, "Puts twenty bytes ready, those of a first, the highest of each first.", () -> {
            for (int at = 0; at < 20; at++) {
                IdealWorks x = works(7, 2, 0);
                String blank = " ".repeat(at) + "y" + " ".repeat(19 - at);
                ready(x, blank);
                x.end(20);
                x.read(0);
                due("y is byte " + at, shown(x, 0), "y");
                ready(x, blank);
                x.end(at);
                refused("the " + at + " ahead of it", ARGUMENT, () -> x.read(0));
                due("only spaces", x.fault(1), at);
                ready(x, blank);
                x.end(at + 1);
                due("with it", x.read(0), 1);
            }
            IdealWorks x = works(7, 2, 0);
            x.feed(0x782A792B, 0x78782020, 0xFFFFFFFF, 0x80808080, 0x7FFFFFFF);
            x.end(4);
            x.feed(0x31202020, 0, 0, 0, 0);
            x.end(4);
            x.read(0);
            due("later bytes take the place of earlier ones", shown(x, 0), "x*y+1");
            x.feed(0xF8000000, 0, 0, 0, 0);
            x.end(1);
            refused("the byte 248 is no x", ARGUMENT, () -> x.read(0));
            x.feed(0x78FFFFFF, 0xFFFFFFFF, 0, 0, 0);
            x.end(1);
            due("bytes of 255 do not touch the one ahead", x.read(0), 1);
        });
        sentence(3, "(They are 0 at first, and behind each end() that answers a number.)", () -> {
            IdealWorks x = works(7, 2, 0);
            for (int k = 0; k < 20; k++) {
                due("end(1)", x.end(1), 1);
                refused("a 0 at first", ARGUMENT, () -> x.read(0));
                due("at 0", x.fault(1), 0);
            }
            IdealWorks y = new IdealWorks();
            y.end(20);
            refused("twenty 0 at first", ARGUMENT, () -> y.read(0));
            due("at 0", y.fault(1), 0);
            ready(y, "x".repeat(20));
            due("end(1)", y.end(1), 1);
            due("all are 0 behind it", y.end(19), 20);
            refused("read", ARGUMENT, () -> y.read(0));
            due("a 0 is next", y.fault(1), 1);
            ready(y, "x");
            due("end(0) answers a number", y.end(0), 0);
            y.end(1);
            refused("0 behind end(0)", ARGUMENT, () -> y.read(0));
            due("at 0", y.fault(1), 0);
            ready(y, "x");
            due("NONE is no number", y.end(21), NONE);
            y.end(1);
            due("the x is there", y.read(0), 1);
        });
    }

    private static void end() {
        sentence(4, "The first n of the bytes that are ready come to the text in hand: how many it has.", () -> {
            IdealWorks x = works(7, 2, 0);
            due("nothing", x.end(0), 0);
            ready(x, "x");
            due("one", x.end(1), 1);
            ready(x, "+y*x+1+x+1+x+1+x+1+x");
            due("twenty", x.end(20), 21);
            ready(x, "+y");
            due("nothing more", x.end(0), 21);
            due("read", x.read(0), 3);
            due("how the parts were joined", shown(x, 0), "x*y+5*x+4");
        });
        sentence(4, "NONE, and nothing comes, if n is not 0 .. 20", () -> {
            for (int n : new int[] {-1, 21, -20, 400, LEAST, MOST}) {
                IdealWorks x = works(7, 2, 0);
                text(x, "x");
                ready(x, "+y");
                due("end(" + n + ")", x.end(n), NONE);
                due("nothing came, and the bytes are there", x.end(2), 3);
                due("read", x.read(0), 2);
            }
        });
        sentence(4, "or it would have more than 400", () -> {
            IdealWorks x = works(7, 2, 0);
            for (int k = 1; k <= 19; k++) {
                ready(x, " ".repeat(20));
                due("end(20)", x.end(20), 20 * k);
            }
            ready(x, " ");
            due("end(1)", x.end(1), 381);
            ready(x, " ".repeat(18) + "x$");
            for (int n : new int[] {20, 21, MOST, MOST - 380}) {
                due("end(" + n + ") at 381", x.end(n), NONE);
            }
            due("400 at last", x.end(19), 400);
            due("end(1) at 400", x.end(1), NONE);
            due("end(20) at 400", x.end(20), NONE);
            due("end(0) at 400", x.end(0), 400);
            due("read", x.read(0), 1);
            ready(x, "y");
            due("from the beginning", x.end(1), 1);
            due("read", x.read(1), 1);
            due("nothing is left of the 400", shown(x, 1), "y");
        });
        sentence(4, "or it would have more than 400", () -> {
            IdealWorks x = works(7, 2, 0);
            for (int k = 1; k <= 20; k++) {
                ready(x, k == 20 ? " ".repeat(19) + "y" : " ".repeat(20));
                due("end(20)", x.end(20), 20 * k);
            }
            ready(x, "x");
            due("a byte more", x.end(1), NONE);
            due("read", x.read(0), 1);
            due("the byte is still ready", x.end(1), 1);
            due("read", x.read(1), 1);
            due("400 bytes", shown(x, 0) + shown(x, 1), "yx");
        });
    }

    // ---- promises 5 and 6 ----

    private static void read() {
        sentence(5, "The text in hand, which is empty then, is polynomial k (0 .. 15): how many terms it has.", () -> {
            for (int k = 0; k < 16; k++) {
                IdealWorks x = works(7, 2, 0);
                text(x, "x*y+x+1");
                due("read(" + k + ")", x.read(k), 3);
                due("the text is empty", x.end(0), 0);
                for (int other = 0; other < 16; other++) {
                    due("polynomial " + other, x.about(other, 0), other == k ? 3 : 0);
                }
            }
            IdealWorks x = works(32003, 4, 0);
            text(x, "x-x");
            due("no terms", x.read(0), 0);
            text(x, "(1+x+y+z+w)^5");
            due("all terms", x.read(0), 126);
            text(x, "x");
            due("what was there is gone", x.read(0), 1);
            due("what was there is gone", x.about(0, 1), 1);
        });
        sentence(5, "IndexOutOfBoundsException: no such k (the text stays).", () -> {
            for (int k : NO_POLYNOMIALS) {
                refusedInVain("read(" + k + ")", INDEX, BoundaryPolynomialTests::rich, x -> x.read(k));
                IdealWorks x = works(7, 2, 0);
                text(x, "x+$");
                refused("no such k, and a FAULT", INDEX, () -> x.read(k));
                due("the text stays", x.end(0), 3);
                due("no FAULT was met", x.fault(0), 0);
            }
        });
        sentence(5, "IllegalArgumentException: a FAULT (the polynomial stays).", () -> {
            for (String s : new String[] {"", "x+", "x^13", "(".repeat(21), "1234567890", "y+y*$"}) {
                IdealWorks x = works(7, 2, 0);
                poly(x, 3, "x+2");
                poly(x, 4, "y");
                text(x, s);
                refused("read of '" + s + "'", ARGUMENT, () -> x.read(3));
                due("the polynomial stays", shown(x, 3), "x+2");
                due("the others, too", shown(x, 4), "y");
                due("the text is empty", x.end(0), 0);
                poly(x, 3, "y+1");
                due("the next text is read from its beginning", shown(x, 3), "y+1");
            }
        });
    }

    private static void fault() {
        sentence(6, "Of the latest read() that was not refused for k: the FAULT, 0 without (what = 0), its PLACE (1; NONE without).", () -> {
            IdealWorks x = new IdealWorks();
            due("before any read()", x.fault(0), 0);
            due("before any read()", x.fault(1), NONE);
            text(x, "x+1234567890");
            refused("read", ARGUMENT, () -> x.read(0));
            due("the FAULT", x.fault(0), 4);
            due("its PLACE", x.fault(1), 2);
            text(x, "x");
            refused("no such k", INDEX, () -> x.read(16));
            due("the FAULT stays", x.fault(0), 4);
            due("its PLACE stays", x.fault(1), 2);
            x.read(0);
            due("without", x.fault(0), 0);
            due("without", x.fault(1), NONE);
            refused("no such k", INDEX, () -> x.read(-1));
            due("still without", x.fault(0), 0);
            refused("nothing in hand", ARGUMENT, () -> x.read(0));
            due("the FAULT", x.fault(0), 1);
            due("its PLACE", x.fault(1), 0);
            text(x, "(".repeat(21));
            refused("read", ARGUMENT, () -> x.read(0));
            due("the FAULT", x.fault(0), 2);
            due("its PLACE", x.fault(1), 20);
            text(x, "y*x^13");
            refused("read", ARGUMENT, () -> x.read(0));
            due("the FAULT", x.fault(0), 3);
            due("its PLACE", x.fault(1), 3);
        });
        sentence(6, "NONE for another what.", () -> {
            for (int what : new int[] {-1, 2, 3, 4, LEAST, MOST}) {
                due("before any read()", new IdealWorks().fault(what), NONE);
                due("behind a FAULT", rich().fault(what), NONE);
            }
        });
    }

    // ---- promises 7 to 10 ----

    private static void add() {
        sentence(7, "Polynomial to becomes a + f * b.", () -> {
            IdealWorks x = works(7, 2, 0);
            poly(x, 0, "x+3");
            poly(x, 1, "y+2*x");
            x.add(0, 3, 1, 15);
            due("x cancels", shown(x, 15), "3*y+3");
            x.add(0, 0, 1, 15);
            due("f is 0", shown(x, 15), "x+3");
            x.add(0, 7, 1, 15);
            due("f is P", shown(x, 15), "x+3");
            x.add(2, 1, 3, 15);
            due("0 + 0", shown(x, 15), "0");
            x.add(0, 6, 0, 0);
            due("all cancels", shown(x, 0), "0");
            IdealWorks y = works(32003, 1, 0);
            poly(y, 0, "32002*x^30+32002");
            y.add(0, 32002, 0, 1);
            due("the greatest numbers", shown(y, 1), "0");
            y.add(0, 32001, 0, 1);
            due("the greatest numbers", shown(y, 1), "x^30+1");
        });
        sentence(7, "IndexOutOfBoundsException: no such polynomial.", () -> {
            for (int k : NO_POLYNOMIALS) {
                refusedInVain("add: a", INDEX, BoundaryPolynomialTests::rich, x -> x.add(k, 1, 1, 2));
                refusedInVain("add: b", INDEX, BoundaryPolynomialTests::rich, x -> x.add(1, 1, k, 2));
                refusedInVain("add: to", INDEX, BoundaryPolynomialTests::rich, x -> x.add(1, 1, 1, k));
                refused("add: b, and f is 0", INDEX, () -> rich().add(1, 0, k, 2));
            }
            refused("0 and 15 are there", NOTHING, () -> rich().add(0, 1, 15, 0));
            refused("0 and 15 are there", NOTHING, () -> rich().add(15, 1, 0, 15));
        });
    }

    private static void multiply() {
        sentence(8, "Polynomial to becomes a * b.", () -> {
            IdealWorks x = works(7, 2, 0);
            poly(x, 0, "x^12");
            x.multiply(0, 9, 15);
            due("times 0", shown(x, 15), "0");
            x.multiply(9, 0, 0);
            due("0 times", shown(x, 0), "0");
            IdealWorks y = works(32003, 2, 1);
            poly(y, 0, "32002*x+32002*y+32002");
            y.multiply(0, 0, 1);
            due("the greatest numbers", shown(y, 1), "x^2+2*x*y+y^2+2*x+2*y+1");
            poly(y, 2, "(x+y)^6");
            poly(y, 3, "(x+y)^6");
            y.multiply(2, 3, 2);
            poly(y, 3, "(x+y)^12");
            due("at HIGHEST", shown(y, 2), shown(y, 3));
            IdealWorks z = works(2, 2, 0);
            poly(z, 0, "x+y");
            z.multiply(0, 0, 0);
            due("a sum of two that is 0", shown(z, 0), "x^2+y^2");
        });
        sentence(8, "IndexOutOfBoundsException: likewise.", () -> {
            for (int k : NO_POLYNOMIALS) {
                refusedInVain("multiply: a", INDEX, BoundaryPolynomialTests::rich, x -> x.multiply(k, 1, 2));
                refusedInVain("multiply: b", INDEX, BoundaryPolynomialTests::rich, x -> x.multiply(1, k, 2));
                refusedInVain("multiply: to", INDEX, BoundaryPolynomialTests::rich, x -> x.multiply(1, 1, k));
                refused("a degree too high, too", INDEX, () -> rich().multiply(0, 0, k));
            }
            refused("0 and 15 are there", NOTHING, () -> rich().multiply(9, 15, 0));
            refused("0 and 15 are there", NOTHING, () -> rich().multiply(9, 0, 15));
        });
        sentence(8, "IllegalStateException: it would be of a higher degree than HIGHEST.", () -> {
            for (int n = 1; n <= 4; n++) {
                IdealWorks x = works(7, n, 0);
                for (int e = 0; e <= HIGHEST[n]; e++) {
                    int f = HIGHEST[n] - e;
                    poly(x, 0, "x^" + e + "+1");
                    poly(x, 1, "x^" + f + "-1");
                    refused(e + " and " + f, NOTHING, () -> x.multiply(0, 1, 2));
                    poly(x, 1, f < HIGHEST[n] ? "x^" + (f + 1) : "x^" + f);
                    refused(e + " and " + (f + 1), f < HIGHEST[n] ? STATE : NOTHING, () -> x.multiply(0, 1, 3));
                    refused(e + " and " + (f + 1), f < HIGHEST[n] ? STATE : NOTHING, () -> x.multiply(1, 0, 3));
                }
            }
            refusedInVain("multiply(0, 0, 0)", STATE, BoundaryPolynomialTests::rich, x -> x.multiply(0, 0, 0));
            refusedInVain("multiply(0, 2, 5)", STATE, BoundaryPolynomialTests::rich, x -> x.multiply(0, 2, 5));
        });
    }

    private static void derive() {
        sentence(9, "Polynomial to becomes a's derivative by variable v (0 on).", () -> {
            IdealWorks x = works(7, 1, 0);
            poly(x, 0, "x^30+x^28+x^15+x^8+x^7+x+1");
            x.derive(0, 0, 1);
            due("exponents that are 0 modulo P", shown(x, 1), "2*x^29+x^14+x^7+1");
            for (int c = 1; c <= 6; c++) {
                poly(x, 0, c + "*x");
                x.derive(0, 0, 15);
                due("of " + c + "*x", shown(x, 15), "" + c);
            }
            poly(x, 0, "5");
            x.derive(0, 0, 15);
            due("of a number", shown(x, 15), "0");
            x.derive(9, 0, 15);
            due("of 0", shown(x, 15), "0");
            IdealWorks y = works(2, 4, 1);
            poly(y, 0, "x*y*z*w+w^2+w^3+x^5");
            y.derive(0, 3, 1);
            due("by w", shown(y, 1), "x*y*z+w^2");
            y.derive(0, 0, 1);
            due("by x", shown(y, 1), "x^4+y*z*w");
            IdealWorks z = works(32003, 1, 0);
            poly(z, 0, "32002*x^30");
            z.derive(0, 0, 1);
            due("the greatest numbers", shown(z, 1), "31973*x^29");
        });
        sentence(9, "IndexOutOfBoundsException: likewise, no such variable.", () -> {
            for (int k : NO_POLYNOMIALS) {
                refusedInVain("derive: a", INDEX, BoundaryPolynomialTests::rich, x -> x.derive(k, 0, 2));
                refusedInVain("derive: to", INDEX, BoundaryPolynomialTests::rich, x -> x.derive(1, 0, k));
            }
            for (int v : new int[] {-1, 2, 3, 4, LEAST, MOST}) {
                refusedInVain("derive: v", INDEX, BoundaryPolynomialTests::rich, x -> x.derive(1, v, 2));
            }
            for (int n = 1; n <= 4; n++) {
                IdealWorks x = works(7, n, 0);
                int v = n;
                refused("the last variable of " + n, NOTHING, () -> x.derive(0, v - 1, 0));
                refused("the variable beyond " + n, INDEX, () -> x.derive(0, v, 0));
            }
        });
    }

    private static void put() {
        sentence(10, "Polynomial to becomes a with a number for variable v.", () -> {
            IdealWorks x = works(7, 2, 0);
            poly(x, 0, "x^3*y+x*y^2+x^2+5");
            x.put(0, 0, 0, 15);
            due("0 for x", shown(x, 15), "5");
            x.put(0, 1, 0, 15);
            due("0 for y", shown(x, 15), "x^2+5");
            x.put(0, 0, 7, 15);
            due("P for x", shown(x, 15), "5");
            x.put(0, 1, 1, 15);
            due("1 for y", shown(x, 15), "x^3+x^2+x+5");
            poly(x, 1, "x-3");
            x.put(1, 0, 3, 15);
            due("a zero", shown(x, 15), "0");
            x.put(1, 1, 5, 15);
            due("a variable that is not there", shown(x, 15), "x+4");
            x.put(9, 0, 5, 15);
            due("in 0", shown(x, 15), "0");
            poly(x, 1, "x*y-y");
            x.put(1, 0, 1, 1);
            due("all cancels", shown(x, 1), "0");
            IdealWorks y = works(32003, 1, 0);
            poly(y, 0, "32002*x^30+32002");
            y.put(0, 0, 32002, 1);
            due("the greatest numbers", shown(y, 1), "32001");
            IdealWorks z = works(5, 4, 1);
            poly(z, 0, "w^5+z*w^3+x");
            z.put(0, 3, 2, 0);
            due("2 for w", shown(z, 0), "x+3*z+2");
        });
        sentence(10, "IndexOutOfBoundsException: likewise.", () -> {
            for (int k : NO_POLYNOMIALS) {
                refusedInVain("put: a", INDEX, BoundaryPolynomialTests::rich, x -> x.put(k, 0, 1, 2));
                refusedInVain("put: to", INDEX, BoundaryPolynomialTests::rich, x -> x.put(1, 0, 1, k));
            }
            for (int v : new int[] {-1, 2, 3, 4, LEAST, MOST}) {
                refusedInVain("put: v", INDEX, BoundaryPolynomialTests::rich, x -> x.put(1, v, 1, 2));
            }
            for (int n = 1; n <= 4; n++) {
                IdealWorks x = works(7, n, 0);
                int v = n;
                refused("the last variable of " + n, NOTHING, () -> x.put(0, v - 1, 1, 0));
                refused("the variable beyond " + n, INDEX, () -> x.put(0, v, 1, 0));
            }
        });
    }

    // ---- promises 11 to 14 ----

    private static void about() {
        sentence(11, "How many terms polynomial k has (what = 0), its degree (1).", () -> {
            IdealWorks x = works(32003, 4, 0);
            poly(x, 15, "(1+x+y+z+w)^5");
            due("all terms there are", x.about(15, 0), 126);
            due("HIGHEST", x.about(15, 1), 5);
            poly(x, 0, "3");
            due("one term", x.about(0, 0), 1);
            due("degree 0", x.about(0, 1), 0);
            IdealWorks y = works(7, 1, 0);
            poly(y, 0, "x^30");
            due("HIGHEST", y.about(0, 1), 30);
        });
        sentence(11, "NONE for another what, or k; the degree of 0 is NONE.", () -> {
            IdealWorks x = rich();
            for (int what : new int[] {-1, 2, 3, LEAST, MOST}) {
                due("about(0, " + what + ")", x.about(0, what), NONE);
            }
            for (int k : NO_POLYNOMIALS) {
                for (int what = -1; what <= 2; what++) {
                    due("about(" + k + ", " + what + ")", x.about(k, what), NONE);
                }
            }
            due("terms of 0", x.about(9, 0), 0);
            due("the degree of 0", x.about(9, 1), NONE);
        });
    }

    private static void term() {
        sentence(12, "Of term i of polynomial k (the greatest is 0) exponent what (0 .. 3; 0 of a variable beyond the N), or its coefficient (4).", () -> {
            IdealWorks x = works(7, 2, 0);
            poly(x, 15, "3*x^2*y^4+6*y+4");
            int[][] terms = {{2, 4, 0, 0, 3}, {0, 1, 0, 0, 6}, {0, 0, 0, 0, 4}};
            for (int i = 0; i < 3; i++) {
                for (int what = 0; what <= 4; what++) {
                    due("term(15, " + i + ", " + what + ")", x.term(15, i, what), terms[i][what]);
                }
            }
            IdealWorks y = works(7, 4, 1);
            poly(y, 0, "w^5+2*x*y*z*w");
            due("w", y.term(0, 0, 3), 5);
            due("z", y.term(0, 1, 2), 1);
            y.field(7, 1, 0);
            poly(y, 0, "x^30");
            due("x", y.term(0, 0, 0), 30);
            for (int what = 1; what <= 3; what++) {
                due("beyond the one variable", y.term(0, 0, what), 0);
            }
        });
        sentence(12, "NONE if there is none such, or for another what.", () -> {
            IdealWorks x = rich();
            for (int what : new int[] {-1, 5, 6, LEAST, MOST}) {
                due("another what", x.term(0, 0, what), NONE);
            }
            for (int i : new int[] {-1, 2, 3, 126, LEAST, MOST}) {
                for (int what = 0; what <= 4; what++) {
                    due("no term " + i, x.term(0, i, what), NONE);
                }
            }
            for (int k : NO_POLYNOMIALS) {
                due("no polynomial " + k, x.term(k, 0, 0), NONE);
            }
            due("0 has no term", x.term(9, 0, 0), NONE);
            due("0 has no term", x.term(9, 0, 4), NONE);
        });
    }

    /** Every monomial with a coefficient of five digits. */
    private static String longest(IdealWorks x, int n) {
        List<String> terms = new ArrayList<>();
        poly(x, 0, "(1+x+y+z+w".substring(0, 2 + 2 * n) + ")^" + HIGHEST[n]);
        int count = x.about(0, 0);
        for (int i = 0; i < count; i++) {
            StringBuilder s = new StringBuilder("32002");
            for (int v = 0; v < n; v++) {
                int e = x.term(0, i, v);
                s.append(e == 0 ? "" : "*" + "xyzw".charAt(v)).append(e > 1 ? "^" + e : "");
            }
            terms.add(s.toString());
        }
        for (int at = 0; at < count; at += 12) {
            poly(x, 2, String.join("+", terms.subList(at, Math.min(count, at + 12))));
            x.add(1, 1, 2, 1);
        }
        return String.join("+", terms);
    }

    private static void print() {
        sentence(13, "Polynomial k PRINTED as output: its length.", () -> {
            IdealWorks x = works(7, 2, 0);
            due("0", x.print(0), 1);
            due("0", output(x), "0");
            poly(x, 15, "x");
            due("x", x.print(15), 1);
            due("x", output(x), "x");
            for (int n = 1; n <= 4; n++) {
                IdealWorks y = works(32003, n, 0);
                String all = longest(y, n);
                due("the longest of " + n, y.print(1), all.length());
                due("the longest of " + n, output(y), all);
            }
        });
        sentence(13, "IndexOutOfBoundsException: no such k.", () -> {
            for (int k : NO_POLYNOMIALS) {
                refusedInVain("print(" + k + ")", INDEX, BoundaryPolynomialTests::rich, x -> x.print(k));
            }
        });
    }

    private static void output() {
        sentence(14, "Byte i of the output (as long as it came); NONE if there is none.", () -> {
            IdealWorks x = new IdealWorks();
            due("before any print()", x.output(0), NONE);
            poly(x, 0, "x+6");
            x.print(0);
            due("the first", x.output(0), 'x');
            due("the last", x.output(2), '6');
            for (int i : new int[] {-1, 3, 4, 2159, 2160, LEAST, MOST}) {
                due("output(" + i + ")", x.output(i), NONE);
            }
            poly(x, 0, "y");
            due("as it was when it was printed", output(x), "x+6");
            x.print(0);
            due("the new one", output(x), "y");
            due("nothing of the longer one", x.output(1), NONE);
            x.field(7, 2, 0);
            due("none behind field()", x.output(0), NONE);
            IdealWorks y = works(32003, 3, 0);
            String all = longest(y, 3);
            y.print(1);
            due("the last of the longest", y.output(all.length() - 1), '2');
            due("behind the longest", y.output(all.length()), NONE);
        });
    }

    public static void main(String[] args) {
        newObject();
        field();
        feed();
        end();
        read();
        fault();
        add();
        multiply();
        derive();
        put();
        about();
        term();
        print();
        output();
        everyPromiseIsQuoted(1, 14);
        finish("every boundary of promises 1 to 14 holds");
    }
}
