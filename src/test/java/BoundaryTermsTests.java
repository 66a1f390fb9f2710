/** The boundary cases that the document's Terms name, each with the number of a promise that uses the term. */
public final class BoundaryTermsTests extends Bench {
    private static final String LETTERS = "xyzw";

    /** On a new object: the text is read, and printed as told. */
    private static void right(int p, int n, String s, String means) {
        IdealWorks x = works(p, n, 0);
        text(x, s);
        refused("read of '" + s + "'", NOTHING, () -> x.read(3));
        due("fault(0) of '" + s + "'", x.fault(0), 0);
        due("fault(1) of '" + s + "'", x.fault(1), NONE);
        due("what '" + s + "' means", shown(x, 3), means);
    }

    private static void right(String s, String means) {
        right(7, 2, s, means);
    }

    private static void faulty(int p, int n, String s, int fault, int place) {
        IdealWorks x = works(p, n, 0);
        text(x, s);
        refused("read of '" + s + "'", ARGUMENT, () -> x.read(3));
        due("fault(0) of '" + s + "'", x.fault(0), fault);
        due("fault(1) of '" + s + "'", x.fault(1), place);
    }

    private static void faulty(String s, int fault, int place) {
        faulty(7, 2, s, fault, place);
    }

    // ---- the field, the variables, the degrees ----

    private static void theField() {
        sentence(5, "told as 0 .. P - 1", () -> {
            right(7, 2, "6", "6");
            right(7, 2, "7", "0");
            right(7, 2, "8", "1");
            right(7, 2, "-1", "6");
            right(2, 2, "-1", "1");
            right(2, 2, "x+x", "0");
            right(32003, 2, "32002", "32002");
            right(32003, 2, "32003", "0");
            right(32003, 2, "-1*x", "32002*x");
        });
        sentence(12, "told as 0 .. P - 1", () -> {
            IdealWorks x = works(32003, 1, 0);
            poly(x, 0, "-1*x^2+32003*x-32002");
            due("the coefficient P - 1", x.term(0, 0, 4), 32002);
            due("the coefficient P is none", x.about(0, 0), 2);
            due("the coefficient 1 - P", x.term(0, 1, 4), 1);
        });
        sentence(2, "a prime up to 32003", () -> {
            refused("the least prime", NOTHING, () -> works(2, 1, 0));
            refused("the greatest prime", NOTHING, () -> works(32003, 1, 0));
            refused("the next prime", ARGUMENT, () -> works(32009, 1, 0));
        });
        sentence(5, "VARIABLES: the first N (1 .. 4) of x, y, z, w.", () -> {
            for (int n = 1; n <= 4; n++) {
                for (int v = 0; v < 4; v++) {
                    String letter = LETTERS.substring(v, v + 1);
                    if (v < n) {
                        right(7, n, letter, letter);
                    } else {
                        faulty(7, n, letter, 1, 0);
                    }
                }
            }
        });
        sentence(12, "A MONOMIAL is told by four exponents; its DEGREE is their sum.", () -> {
            for (int n = 1; n <= 4; n++) {
                IdealWorks x = works(7, n, 0);
                poly(x, 0, "x*y*z*w".substring(0, 2 * n - 1));
                for (int v = 0; v < 4; v++) {
                    due("exponent " + v + " of " + n, x.term(0, 0, v), v < n ? 1 : 0);
                }
                due("the degree", x.about(0, 1), n);
            }
        });
    }

    private static void highest() {
        sentence(5, "30, 12, 7, 5 with N 1 .. 4.", () -> {
            for (int n = 1; n <= 4; n++) {
                right(7, n, "x^" + HIGHEST[n], "x^" + HIGHEST[n]);
                faulty(7, n, "x^" + (HIGHEST[n] + 1), 3, 1);
            }
        });
        sentence(8, "30, 12, 7, 5 with N 1 .. 4.", () -> {
            for (int n = 1; n <= 4; n++) {
                IdealWorks x = works(7, n, 1);
                poly(x, 0, "x^" + (HIGHEST[n] - 1) + "+1");
                poly(x, 1, "x+1");
                x.multiply(0, 1, 2);
                due("the degree", x.about(2, 1), HIGHEST[n]);
                refused("one degree more", STATE, () -> x.multiply(2, 1, 3));
            }
        });
        sentence(18, "30, 12, 7, 5 with N 1 .. 4.", () -> {
            for (int n = 1; n <= 4; n++) {
                IdealWorks x = works(7, n, 1);
                int most = HIGHEST[n];
                generate(x, 0, "x^" + most);
                due("basis up to HIGHEST", x.basis(0, most), 1);
                refused("basis up to more", ARGUMENT, () -> x.basis(0, most + 1));
            }
        });
        sentence(25, "(a dictionary's may have more)", () -> {
            IdealWorks x = works(7, 2, 0);
            generate(x, 0, "y^5-x", "x^5-y");
            x.basis(0, 5);
            due("dictionary", x.dictionary(0), 2);
            due("a degree above 12", x.entry(0, 0, 1), 25);
            IdealWorks y = works(11, 4, 1);
            generate(y, 0, "x^2-y", "y^2-z", "z^2-w", "w^5-x");
            y.basis(0, 5);
            y.dictionary(0);
            due("the greatest there is", entries(y, 0), "1:0,0,0,40 10:0,0,0,1 ");
        });
    }

    private static void exceptions() {
        sentence(16, "Of several exceptions that would be thrown it is the one that is told first", () -> {
            refused("no ideal, and 0", INDEX, () -> rich(7, 2, 0).join(4, 9));
            refused("no polynomial, and full", INDEX, () -> rich(7, 2, 0).join(2, 16));
            refused("0, and full", ARGUMENT, () -> rich(7, 2, 0).join(2, 9));
            refused("full alone", STATE, () -> rich(7, 2, 0).join(2, 0));
        });
        sentence(19, "Of several exceptions that would be thrown it is the one that is told first", () -> {
            refused("no polynomial, and no basis", INDEX, () -> rich(7, 2, 0).element(1, 0, 16));
            refused("no basis, and no such one in it", STATE, () -> rich(7, 2, 0).element(1, 99, 0));
            refused("no basis, and a negative one", STATE, () -> rich(7, 2, 0).element(1, -1, 0));
            refused("no such one alone", INDEX, () -> rich(7, 2, 0).element(0, 99, 0));
        });
        sentence(8, "a call that throws changes nothing", () ->
            refusedInVain("multiply(0, 2, 1)", STATE, () -> rich(7, 2, 0), x -> x.multiply(0, 2, 1)));
        sentence(5, "but that read() empties the text behind a FAULT, too", () -> {
            IdealWorks x = works(7, 2, 0);
            text(x, "x+");
            refused("read", ARGUMENT, () -> x.read(0));
            due("the text is empty", x.end(0), 0);
        });
    }

    private static void reckoned() {
        sentence(7, "A polynomial that becomes what is reckoned of others may be one of these (they are taken as they were).", () -> {
            IdealWorks x = works(7, 2, 0);
            poly(x, 0, "x+1");
            poly(x, 1, "y+2");
            x.add(0, 3, 1, 0);
            due("to is a", shown(x, 0), "x+3*y");
            x.add(0, 3, 1, 1);
            due("to is b", shown(x, 1), "x+6*y+6");
            x.add(1, 2, 1, 1);
            due("all are one", shown(x, 1), "3*x+4*y+4");
        });
        sentence(8, "A polynomial that becomes what is reckoned of others may be one of these (they are taken as they were).", () -> {
            IdealWorks x = works(7, 2, 0);
            poly(x, 0, "x+1");
            poly(x, 1, "x+2");
            x.multiply(0, 1, 0);
            due("to is a", shown(x, 0), "x^2+3*x+2");
            x.multiply(0, 1, 1);
            due("to is b", shown(x, 1), "x^3+5*x^2+x+4");
            x.multiply(0, 0, 0);
            due("all are one", shown(x, 0), "x^4+6*x^3+6*x^2+5*x+4");
        });
        sentence(9, "A polynomial that becomes what is reckoned of others may be one of these (they are taken as they were).", () -> {
            IdealWorks x = works(7, 2, 0);
            poly(x, 0, "x^3+x^2+x*y+1");
            x.derive(0, 0, 0);
            due("to is a", shown(x, 0), "3*x^2+2*x+y");
        });
        sentence(10, "A polynomial that becomes what is reckoned of others may be one of these (they are taken as they were).", () -> {
            IdealWorks x = works(7, 2, 0);
            poly(x, 0, "x^3+x^2*y+x*y+1");
            x.put(0, 0, 2, 0);
            due("to is a", shown(x, 0), "6*y+2");
        });
        sentence(17, "A polynomial that becomes what is reckoned of others may be one of these (they are taken as they were).", () -> {
            IdealWorks x = works(7, 2, 0);
            generate(x, 0, "x", "y");
            x.both(0, 0, true, 0);
            due("an ideal, too", x.basis(0, 2), 3);
            due("an ideal, too", generators(x, 0), 4);
        });
        sentence(22, "A polynomial that becomes what is reckoned of others may be one of these (they are taken as they were).", () -> {
            IdealWorks x = works(7, 2, 0);
            generate(x, 0, "x^2-y");
            x.basis(0, 4);
            poly(x, 0, "x^4+x^3+x+2");
            due("remainder", x.remainder(0, 0, 0), false);
            due("to is a", shown(x, 0), "x*y+y^2+x+2");
        });
        sentence(7, "Numbers f, number are meant modulo P.", () -> {
            int[] numbers = {0, 1, 6, 7, 8, -1, -6, -7, -8, MOST, LEAST, LEAST + 1, 32003, -32003};
            for (int f : numbers) {
                IdealWorks x = works(7, 2, 0);
                poly(x, 1, "x");
                x.add(0, f, 1, 2);
                due(f + " * x", Math.max(0, x.term(2, 0, 4)), Math.floorMod(f, 7));
            }
            IdealWorks x = works(32003, 1, 0);
            poly(x, 0, "32002");
            x.add(0, -1, 0, 1);
            due("f is P - 1, and so are the coefficients", shown(x, 1), "0");
            x.add(0, 32002, 0, 1);
            due("f is P - 1, and so are the coefficients", shown(x, 1), "0");
            x.add(0, 32001, 0, 1);
            due("f is P - 2", shown(x, 1), "1");
        });
        sentence(10, "Numbers f, number are meant modulo P.", () -> {
            int[] numbers = {0, 1, 6, 7, 8, -1, -6, -7, -8, MOST, LEAST, LEAST + 1, 32003, -32003};
            for (int number : numbers) {
                IdealWorks x = works(7, 2, 0);
                poly(x, 1, "x");
                x.put(1, 0, number, 2);
                due(number + " for x", Math.max(0, x.term(2, 0, 4)), Math.floorMod(number, 7));
            }
            IdealWorks x = works(32003, 1, 0);
            poly(x, 0, "-x^30+x^29");
            x.put(0, 0, -1, 1);
            due("P - 1 for x", shown(x, 1), "32001");
            x.put(0, 0, 32002, 1);
            due("P - 1 for x", shown(x, 1), "32001");
        });
        sentence(11, "A POLYNOMIAL: monomials, each with a coefficient that is not 0; its degree the greatest of theirs (NONE without any).", () -> {
            IdealWorks x = works(7, 2, 0);
            due("the degree of 0", x.about(0, 1), NONE);
            poly(x, 0, "x^12+7*y-x^12+x*y^2+4");
            due("what is 0 is no term", x.about(0, 0), 2);
            due("the greatest degree", x.about(0, 1), 3);
            poly(x, 0, "5");
            due("the degree of 5", x.about(0, 1), 0);
        });
    }

    // ---- the order ----

    private static int greater(int[] a, int[] b, int order) {
        int degrees = a[0] + a[1] + a[2] + a[3] - b[0] - b[1] - b[2] - b[3];
        if (degrees != 0) {
            return degrees;
        }
        for (int k = 0; k < 4; k++) {
            int v = order == 0 ? 3 - k : k;
            if (a[v] != b[v]) {
                return order == 0 ? b[v] - a[v] : a[v] - b[v];
            }
        }
        return 0;
    }

    /** All monomials there are, in one polynomial. */
    private static void wholeOrder(int n, int order) {
        IdealWorks x = works(32003, n, order);
        poly(x, 0, "(1+x+y+z+w".substring(0, 2 + 2 * n) + ")^" + HIGHEST[n]);
        int terms = x.about(0, 0);
        due("how many monomials of " + n, terms, new int[] {0, 31, 91, 120, 126}[n]);
        int[] last = null;
        for (int i = 0; i < terms; i++) {
            int[] m = new int[4];
            for (int v = 0; v < n; v++) {
                m[v] = x.term(0, i, v);
            }
            check(last == null || greater(last, m, order) > 0, "term " + i + " of " + n + " variables is out of order " + order);
            last = m;
        }
        due("the last is 1", last[0] + last[1] + last[2] + last[3], 0);
    }

    private static void theOrder() {
        sentence(12, "ORDER 0: that one is greater whose last exponent that differs is less", () -> {
            for (int n = 1; n <= 4; n++) {
                wholeOrder(n, 0);
            }
            IdealWorks x = works(7, 3, 0);
            poly(x, 0, "x*z+y^2");
            due("y^2 is greater than x*z", shown(x, 0), "y^2+x*z");
        });
        sentence(12, "ORDER 1: whose first exponent that differs is greater", () -> {
            for (int n = 1; n <= 4; n++) {
                wholeOrder(n, 1);
            }
            IdealWorks x = works(7, 3, 1);
            poly(x, 0, "x*z+y^2");
            due("x*z is greater than y^2", shown(x, 0), "x*z+y^2");
        });
        sentence(12, "THE ORDER of monomials: by degree", () -> {
            for (int order = 0; order <= 1; order++) {
                IdealWorks x = works(7, 4, order);
                poly(x, 0, "x+w^2+1+y^3");
                due("by degree", shown(x, 0), "y^3+w^2+x+1");
            }
        });
        sentence(18, "The LEADING monomial is the greatest.", () -> {
            for (int order = 0; order <= 1; order++) {
                IdealWorks x = works(7, 3, order);
                generate(x, 0, "2*x*z+4*y^2");
                x.basis(0, 2);
                due("the greatest has coefficient 1", element(x, 0, 0), order == 0 ? "y^2+4*x*z" : "x*z+2*y^2");
            }
        });
    }

    // ---- the text ----

    private static void sums() {
        sentence(5, "a SUM: terms, with + or - between, and perhaps a - ahead of the first one", () -> {
            right("x", "x");
            right("x+y-1", "x+y+6");
            right("-x-y", "6*x+6*y");
            right("(-x)", "6*x");
            right("-x*y+x*y", "0");
            right("-x^2", "6*x^2");
            right("3*(-y-1)*2", "y+1");
            right("x+".repeat(199) + "x", "4*x");
            right("-" + "x-".repeat(199) + "x", "3*x");
        });
        sentence(6, "a SUM: terms, with + or - between, and perhaps a - ahead of the first one", () -> {
            faulty("+x", 1, 0);
            faulty("--x", 1, 1);
            faulty("(+x)", 1, 1);
            faulty("x++y", 1, 2);
            faulty("x+-y", 1, 2);
            faulty("x-+y", 1, 2);
            faulty("x*-y", 1, 2);
            faulty("()", 1, 1);
        });
        sentence(5, "a TERM: factors with * between", () -> {
            right("x*y*3*x", "3*x^2*y");
            right("1*".repeat(199) + "x", "x");
            right("(x+1)*(y+1)", "x*y+x+y+1");
        });
        sentence(6, "a TERM: factors with * between", () -> {
            faulty("*x", 1, 0);
            faulty("x**y", 1, 2);
            faulty("x*+y", 1, 2);
            faulty("xy", 1, 1);
            faulty("x 2", 1, 2);
            faulty("(x)(y)", 1, 3);
            faulty("x(y)", 1, 1);
        });
    }

    private static void factors() {
        sentence(5, "a number of 1 to 9 digits", () -> {
            right(32003, 2, "0", "0");
            right(32003, 2, "9", "9");
            right(32003, 2, "999999999", String.valueOf(999999999 % 32003));
            right(32003, 2, "000000001", "1");
            right(32003, 2, "000000000", "0");
            right(32003, 2, "999999999^2", String.valueOf(999999999L * 999999999L % 32003));
        });
        sentence(6, "a number of 1 to 9 digits", () -> {
            faulty("1000000000", 4, 0);
            faulty("0000000000", 4, 0);
            faulty("x+1234567890*y", 4, 2);
            faulty("9".repeat(400), 4, 0);
        });
        sentence(5, "a sum in ( ), at most 20 of these in one another", () -> {
            right("(".repeat(20) + "x" + ")".repeat(20), "x");
            right("-(".repeat(20) + "x" + ")".repeat(20), "x");
            right("(x)+".repeat(90) + "(x)", "0");
            right("(".repeat(20) + "x" + ")".repeat(20) + "*" + "(".repeat(20) + "y" + ")".repeat(20), "x*y");
            right("(x+(x+(x+(x+1)^2)^2))^1", "x^4+6*x^3+4*x^2+x+1");
        });
        sentence(6, "a sum in ( ), at most 20 of these in one another", () -> {
            faulty("(".repeat(21) + "x" + ")".repeat(21), 2, 20);
            faulty("-(".repeat(21) + "x" + ")".repeat(21), 2, 41);
        });
        sentence(5, "each perhaps with ^ and a number of 1 or 2 digits behind it", () -> {
            right("x^1", "x");
            right("x^01", "x");
            right("x^12", "x^12");
            right("3^2", "2");
            right("(x+y)^2", "x^2+2*x*y+y^2");
            right("2^99", "1");
            right("0^99", "0");
            right("(x-x)^99", "0");
            right(32003, 1, "(x+1)^30-x^30-30*x^29", longPower());
        });
        sentence(6, "each perhaps with ^ and a number of 1 or 2 digits behind it", () -> {
            faulty("x^100", 4, 2);
            faulty("x^000", 4, 2);
            faulty("2^001", 4, 2);
            faulty("x^", 1, 2);
            faulty("x^x", 1, 2);
            faulty("x^-1", 1, 2);
            faulty("x^(1)", 1, 2);
            faulty("^2", 1, 0);
            faulty("x+^2", 1, 2);
        });
        sentence(5, "(0: 1, of 0, too)", () -> {
            right("x^0", "1");
            right("x^00", "1");
            right("0^0", "1");
            right("7^0", "1");
            right("(x-x)^0", "1");
            right("(x+y+1)^0", "1");
            right("(x^12)^0", "1");
            right("x^12*(y^12)^0", "x^12");
            right("-0^0", "6");
        });
    }

    /** Binomials of 30 from the 28th power down, which do not all fit below 32003. */
    private static String longPower() {
        StringBuilder s = new StringBuilder();
        long binomial = 30;
        for (int e = 28; e >= 0; e--) {
            binomial = binomial * (e + 1) / (30 - e);
            long c = binomial % 32003;
            s.append(s.length() > 0 ? "+" : "");
            s.append(e == 0 ? "" + c : (c == 1 ? "" : c + "*") + "x" + (e > 1 ? "^" + e : ""));
        }
        return s.toString();
    }

    private static void spaces() {
        sentence(5, "Spaces (32 alone) may stand between any of these, ahead of the first and behind the last.", () -> {
            String tight = "-(x+y)^2*3-(-x)*y+12";
            String means = "4*x^2+2*x*y+4*y^2+5";
            right(tight, means);
            right("-( x+y )^2*3-( -x )*y+12", means);
            String wide = " - ( x + y ) ^ 2 * 3 - ( - x ) * y + 12 ";
            right(wide, means);
            right(wide.replace(" ", "   "), means);
            for (int at = 0; at <= tight.length(); at++) {
                if (at != tight.length() - 1) {
                    right(tight.substring(0, at) + " " + tight.substring(at), means);
                }
            }
            right(" ".repeat(399) + "x", "x");
            right("x" + " ".repeat(399), "x");
        });
        sentence(6, "Spaces (32 alone) may stand between any of these, ahead of the first and behind the last.", () -> {
            for (int b = 0; b < 256; b++) {
                if (b != 32 && "+-*^".indexOf(b) < 0) {
                    faulty("x" + (char) b, 1, 1);
                }
                if (b < 32 || b > 126) {
                    faulty((char) b + "x", 1, 0);
                    faulty("x+" + (char) b + "x", 1, 2);
                }
            }
            faulty("1 2", 1, 2);
            faulty("x^1 2", 1, 4);
        });
        sentence(5, "-(-x), x ^ 2 are right", () -> {
            right("-(-x)", "x");
            right("x ^ 2", "x^2");
        });
        sentence(6, "x^2^3, x--1, 2x, a variable beyond the first N are 1 at the second ^ or -, at x, at it", () -> {
            faulty("x^2^3", 1, 3);
            faulty("x ^ 2 ^ 3", 1, 6);
            faulty("x--1", 1, 2);
            faulty("x - - 1", 1, 4);
            faulty("2x", 1, 1);
            faulty("2 x", 1, 2);
            faulty("z", 1, 0);
            faulty("x+w", 1, 2);
            faulty(7, 1, "x*y", 1, 2);
            faulty(7, 3, "(x+y+z+w)", 1, 7);
        });
        sentence(5, "What it means is reckoned in the field.", () -> {
            right("(x+y)^7", "x^7+y^7");
            right("4+5", "2");
            right("4*5", "6");
            right("3-5", "5");
            right("3^6", "1");
            right(2, 2, "(x+y)^8", "x^8+y^8");
            right(32003, 2, "32002*32002*x+32002*x", "0");
            right(32003, 2, "(32002*x+32002*y)^2", "x^2+2*x*y+y^2");
        });
    }

    // ---- the faults ----

    private static void misplaced() {
        sentence(6, "1 what can't stand there, or the end where more must (at it: the text's length; so of an empty text 0)", () -> {
            for (int b = 0; b < 256; b++) {
                char c = (char) b;
                boolean starts = c == '(' || c == '-' || c == ' ';
                if (!Character.isDigit(c) && c != 'x' && c != 'y') {
                    faulty("" + c, 1, starts ? 1 : 0);
                }
            }
            faulty("", 1, 0);
            faulty("   ", 1, 3);
            faulty("x+", 1, 2);
            faulty("x+  ", 1, 4);
            faulty("x-", 1, 2);
            faulty("x*", 1, 2);
            faulty("x* ", 1, 3);
            faulty("x^", 1, 2);
            faulty("x^ ", 1, 3);
            faulty("(", 1, 1);
            faulty("(x", 1, 2);
            faulty("(x  ", 1, 4);
            faulty("((x)", 1, 4);
            faulty("x)", 1, 1);
            faulty("(x))", 1, 3);
            faulty("X", 1, 0);
            faulty("a", 1, 0);
            faulty(" ".repeat(400), 1, 400);
            faulty(" ".repeat(398) + "x+", 1, 400);
            faulty("x" + " ".repeat(398) + "x", 1, 399);
        });
        sentence(6, "2 more than 20 ( (at it)", () -> {
            faulty("(".repeat(20), 1, 20);
            faulty("(".repeat(21), 2, 20);
            faulty("(".repeat(400), 2, 20);
            faulty("x+" + "(".repeat(21), 2, 22);
            faulty("(".repeat(20) + " (", 2, 21);
            faulty("(".repeat(20) + "x+(", 2, 22);
            faulty("(".repeat(20) + "x(", 1, 21);
            faulty("(".repeat(19) + "(x)*((", 2, 24);
        });
    }

    private static void tooHigh() {
        sentence(6, "3 a product or power of a higher degree than HIGHEST, the degrees' sum, the degree times the exponent (at the * or ^", () -> {
            right("x^6*y^6", "x^6*y^6");
            faulty("x^6*y^7", 3, 3);
            faulty("x^6 * y^7", 3, 4);
            right("(x*y)^6", "x^6*y^6");
            faulty("(x*y)^7", 3, 5);
            faulty("(x*y) ^ 7", 3, 6);
            right("(x^2*y^2)^3", "x^6*y^6");
            faulty("(x^3*y^2)^3", 3, 9);
            faulty("x^99", 3, 1);
            faulty("(x^12)^99", 3, 6);
            faulty("x*x^12", 3, 1);
            faulty("x^4*x^4*x^4*x", 3, 11);
            faulty("1+2*(x^12*y)+3", 3, 9);
            faulty("x^12*(y+1)", 3, 4);
            right("x^12*(1+1)", "2*x^12");
        });
        sentence(6, "of a power when its number has been read, of a product when its right factor has been", () -> {
            faulty("x^13$", 3, 1);
            faulty("x^13^2", 3, 1);
            faulty("x^13*(", 3, 1);
            faulty("x^$", 1, 2);
            faulty("x^12*y$", 3, 4);
            faulty("x^12*y*$", 3, 4);
            faulty("x^12*y+$", 3, 4);
            faulty("x^12*$", 1, 5);
            faulty("x^12*(y$", 1, 7);
            faulty("x^12*(y", 1, 7);
            faulty("x^12*(y)$", 3, 4);
            faulty("x^12*y^$", 1, 7);
            faulty("x^12*y^13", 3, 6);
            right("x^12*y^0", "x^12");
            faulty("x^12*x^12*y^13", 3, 4);
            faulty("x^12*(y^12*x)", 3, 10);
        });
        sentence(6, "with coefficients as they are, so that what is 0 has no degree", () -> {
            right("7*x^12*x^12", "0");
            right("x^12*7*x^12", "0");
            right("x^12*(7*x)", "0");
            right("x^12*0", "0");
            right("(7*x)^13", "0");
            right("(7*x)^99", "0");
            right("(x-x)*x^12", "0");
            right("x^12*(x-x)", "0");
            right("(x^12-x^12+y)*x^11", "x^11*y");
            right("(7*x^12+y)^12", "y^12");
            faulty("8*x^12*x", 3, 6);
            faulty("x^12*x*7", 3, 4);
        });
    }

    private static void tooLong() {
        sentence(6, "4 a number of too many digits (at its beginning; met when it is read, ahead of a 3 by it)", () -> {
            right("123456789", "1");
            faulty("1234567890", 4, 0);
            faulty(" 1234567890", 4, 1);
            faulty("x*1234567890$", 4, 2);
            faulty("1234567890x", 4, 0);
            faulty("x^123", 4, 2);
            faulty("x^ 123", 4, 3);
            faulty("x^999", 4, 2);
            faulty("(x^12)^130", 4, 7);
            faulty(7, 1, "x^310", 4, 2);
            faulty("x^12*x^123", 4, 7);
            faulty("x^12*1234567890", 4, 5);
            faulty("x^12*y*1234567890", 3, 4);
            faulty("x 1234567890", 1, 2);
        });
        sentence(6, "FAULTS, the first that is met from left to right, and its PLACE, a byte", () -> {
            faulty("$+x^13+1234567890", 1, 0);
            faulty("x^13+1234567890+$", 3, 1);
            faulty("1234567890+$+x^13", 4, 0);
            faulty("(".repeat(21) + "$", 2, 20);
            faulty("$" + "(".repeat(21), 1, 0);
            faulty("x^13+" + "(".repeat(21), 3, 1);
            faulty("x+y+z+w", 1, 4);
            faulty("(x^13", 3, 2);
        });
    }

    private static void printed() {
        sentence(13, "PRINTED: terms, the greatest first, + between", () -> {
            right("1+x+x^2", "x^2+x+1");
            right("-x-1", "6*x+6");
        });
        sentence(13, "a coefficient (but 1 ahead of a variable), *, variables in order with * between", () -> {
            right("1", "1");
            right("1*x", "x");
            right("y*x", "x*y");
            right("2*x", "2*x");
            right("x+1", "x+1");
            right(32003, 4, "32002*w*z*y*x", "32002*x*y*z*w");
            right(32003, 4, "10000*w+10*z+100+1000*x", "1000*x+10*z+10000*w+100");
        });
        sentence(13, "each with ^ and its exponent if that is above 1", () -> {
            right("x^1", "x");
            right("x^2*y", "x^2*y");
            right("x^9", "x^9");
            right("x^10*y^2", "x^10*y^2");
            right(7, 1, "x^30+x^29+x^20", "x^30+x^29+x^20");
        });
        sentence(13, "0 for nothing", () -> {
            right("0", "0");
            right("x-x", "0");
            right("7*x", "0");
        });
    }

    // ---- ideals ----

    private static void ideals() {
        sentence(16, "IDEALS 0 .. 3 have at most 8 GENERATORS, none of them 0.", () -> {
            for (int i = 0; i < 4; i++) {
                IdealWorks x = works(7, 2, 0);
                int which = i;
                poly(x, 0, "x");
                for (int k = 1; k <= 8; k++) {
                    due("join", x.join(i, 0), k);
                }
                refused("the ninth", STATE, () -> x.join(which, 0));
                refused("0", ARGUMENT, () -> x.join((which + 1) % 4, 1));
            }
            refused("ideal -1", INDEX, () -> rich(7, 2, 0).join(-1, 0));
            refused("ideal 4", INDEX, () -> rich(7, 2, 0).join(4, 0));
        });
        sentence(18, "from the generators of degree at most D", () -> {
            IdealWorks x = works(7, 2, 0);
            generate(x, 0, "x^2-y", "x^3-1");
            due("x^2-y is above 1", x.basis(0, 1), 0);
            due("x^2-y is not above 2", x.basis(0, 2), 1);
            due("x^3-1 is above 2", elements(x, 0), "x^2+6*y");
            // x*(x^2-y) less x^3-1 is 1-x*y, and with that x*(1-x*y)+y*(x^2-y) is x-y^2
            x.basis(0, 3);
            due("x^3-1 is not above 3", elements(x, 0), "y^2+6*x, x*y+6, x^2+6*y");
        });
        sentence(18, "products of one that was had, of a degree below D, with a variable", () -> {
            IdealWorks x = works(7, 2, 0);
            generate(x, 0, "x*y-1", "x");
            x.basis(0, 1);
            due("only x", elements(x, 0), "x");
            x.basis(0, 2);
            due("y*x less x*y-1", elements(x, 0), "1");
            generate(x, 1, "x+1");
            x.basis(1, 0);
            due("nothing of degree 0", x.ideal(1, 1), 0);
            x.basis(1, 1);
            due("all but x are left in degree 1", x.standard(1, 1), 1);
            // y*(x^2*y+x) less x^2*(y^2-1) is x^2+x*y, of degree 2, had by way of degree 4
            generate(x, 2, "x^2*y+x", "y^2-1");
            x.basis(2, 3);
            due("up to 3", elements(x, 2), "y^2+6, x^2*y+x");
            x.basis(2, 4);
            due("up to 4", elements(x, 2), "y^2+6, x^2+x*y");
        });
        sentence(18, "of the leading monomials of the space's polynomials those that no other one of them divides", () -> {
            IdealWorks x = works(7, 2, 0);
            generate(x, 0, "x^2", "x^3", "x^2*y", "y^3", "x*y^3");
            x.basis(0, 12);
            due("x^2 divides x^3, x^2*y; y^3 divides x*y^3", elements(x, 0), "x^2, y^3");
            generate(x, 0, "x", "x", "3*x");
            x.basis(0, 1);
            due("the same three times", elements(x, 0), "x");
        });
        sentence(18, "for each the one polynomial of the space with it, with coefficient 1, that has no other monomial that is a leading one of the space", () -> {
            IdealWorks x = works(7, 2, 0);
            generate(x, 0, "3*x^2+x*y+y", "x*y+2", "y+5");
            x.basis(0, 2);
            // y is -5, so that x*y+2 is -5*x+2, and x is 2/5
            due("x is 2/5 and y is 2, so that 3*x^2+x*y+y is no 0", elements(x, 0), "1");
            generate(x, 1, "2*x^2+x*y+y", "3*x*y+1");
            x.basis(1, 2);
            due("x*y comes from the tail of x^2", elements(x, 1), "x*y+5, x^2+4*y+1");
            generate(x, 2, "x^2+x+y+3", "y+1");
            x.basis(2, 2);
            due("y stands behind x, which is no leading one", elements(x, 2), "y+1, x^2+x+2");
        });
    }

    private static void complete() {
        sentence(20, "It is COMPLETE if all generators are of degree at most D", () -> {
            IdealWorks x = works(7, 2, 0);
            generate(x, 0, "y", "x^2", "x^3");
            x.basis(0, 2);
            due("x^3 is above 2, though it is in", x.ideal(0, 0), 0);
            x.basis(0, 3);
            due("x^3 is not above 3", x.ideal(0, 0), 1);
            generate(x, 1, "1", "x^12");
            x.basis(1, 11);
            due("even with 1 in it", x.ideal(1, 0), 0);
            x.basis(1, 12);
            due("at HIGHEST", x.ideal(1, 0), 1);
        });
        sentence(20, "for any two of its polynomials the least common multiple of their leading monomials is of degree at most D, or is their product", () -> {
            IdealWorks x = works(7, 3, 0);
            generate(x, 0, "x*y", "x*z");
            x.basis(0, 2);
            due("x*y*z is above 2", x.ideal(0, 0), 0);
            x.basis(0, 3);
            due("x*y*z is not above 3", x.ideal(0, 0), 1);
            generate(x, 1, "x^3", "y^3", "z^3");
            x.basis(1, 3);
            due("products may be above 3", x.ideal(1, 0), 1);
            generate(x, 2, "x^3", "y^3", "x*z");
            x.basis(2, 3);
            due("x^3*z is above 3", x.ideal(2, 0), 0);
            x.basis(2, 4);
            due("x^3*z is not above 4", x.ideal(2, 0), 1);
        });
        sentence(22, "(Then a polynomial is in the ideal just if its REMAINDER is 0.)", () -> {
            IdealWorks x = works(7, 2, 0);
            generate(x, 0, "x*y-1", "x^2-y");
            x.basis(0, 3);
            due("complete", x.ideal(0, 0), 1);
            // y*(x^2-y) less x*(x*y-1) is x-y^2
            poly(x, 0, "x-y^2");
            due("in", x.remainder(0, 0, 1), true);
            poly(x, 0, "x-y");
            due("not in", x.remainder(0, 0, 1), false);
        });
        sentence(22, "THE REMAINDER of a polynomial of degree at most D: what differs from it by one of the space, and has none of the space's leading monomials.", () -> {
            IdealWorks x = works(7, 2, 0);
            generate(x, 0, "x^2-y", "x*y-1");
            x.basis(0, 2);
            poly(x, 0, "x^2+2*x*y+y^2");
            x.remainder(0, 0, 1);
            due("up to 2, y^2 is none of them", shown(x, 1), "y^2+y+2");
            x.basis(0, 3);
            x.remainder(0, 0, 1);
            due("up to 3, y^2 is one of them", shown(x, 1), "x+y+2");
            generate(x, 1, "y+1");
            x.basis(1, 3);
            poly(x, 0, "x^3+x*y+x+y");
            due("y stands behind x, which is no leading one", x.remainder(1, 0, 1), false);
            due("y stands behind x, which is no leading one", shown(x, 1), "x^3+6");
            poly(x, 0, "x^3");
            due("of the very degree", x.remainder(0, 0, 1), false);
            due("x^3", shown(x, 1), "1");
            poly(x, 0, "x^4");
            refused("of a degree more", STATE, () -> x.remainder(0, 0, 1));
        });
        sentence(11, "`NONE = -1`: None.", () -> due("NONE", IdealWorks.NONE, -1));
    }

    public static void main(String[] args) {
        theField();
        highest();
        exceptions();
        reckoned();
        theOrder();
        sums();
        factors();
        spaces();
        misplaced();
        tooHigh();
        tooLong();
        printed();
        ideals();
        complete();
        everyTermIsQuoted();
        finish("every boundary of the terms holds");
    }
}
