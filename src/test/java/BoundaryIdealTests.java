/** Each sentence of promises 15 to 28, with the boundary cases that it names: ideals, bases, dictionaries, zeros. */
public final class BoundaryIdealTests extends Bench {

    private static IdealWorks rich() {
        return rich(7, 2, 0);
    }

    // ---- promises 15 to 17 ----

    private static void clear() {
        sentence(15, "Ideal i has no generators.", () -> {
            for (int i = 0; i < 4; i++) {
                IdealWorks x = rich();
                x.clear(i);
                due("no basis", x.ideal(i, 0), NONE);
                x.basis(i, 12);
                due("no polynomials", x.ideal(i, 1), 0);
                due("all points", x.zeros(i), 49);
                x.read(9);
                due("generators of " + i, generators(x, i), 0);
            }
            IdealWorks x = rich();
            x.clear(1);
            due("the others stay", x.ideal(0, 1), 2);
            refused("the full one is full", STATE, () -> x.join(2, 0));
            x.clear(2);
            due("the full one is empty", x.join(2, 0), 1);
            x.clear(3);
            x.clear(3);
            due("an empty one, twice", x.join(3, 0), 1);
        });
        sentence(15, "IndexOutOfBoundsException: no such ideal.", () -> {
            for (int i : NO_IDEALS) {
                refusedInVain("clear(" + i + ")", INDEX, BoundaryIdealTests::rich, x -> x.clear(i));
            }
        });
    }

    private static void join() {
        sentence(16, "Polynomial k, as it is now, comes to the generators of ideal i: how many there are.", () -> {
            IdealWorks x = works(7, 2, 0);
            poly(x, 15, "x-2");
            for (int k = 1; k <= 8; k++) {
                due("join", x.join(3, 15), k);
            }
            due("the others have none", x.join(2, 15), 1);
            poly(x, 15, "y");
            x.basis(3, 1);
            due("as it was then", elements(x, 3), "x+5");
            poly(x, 0, "4");
            due("a number", x.join(0, 0), 1);
            x.basis(0, 0);
            due("a number", elements(x, 0), "1");
            IdealWorks y = works(7, 1, 0);
            poly(y, 0, "x^30");
            due("HIGHEST", y.join(0, 0), 1);
        });
        sentence(16, "IndexOutOfBoundsException: no such ideal or polynomial.", () -> {
            for (int i : NO_IDEALS) {
                refusedInVain("join(" + i + ", 0)", INDEX, BoundaryIdealTests::rich, x -> x.join(i, 0));
                refused("0, too", INDEX, () -> rich().join(i, 9));
            }
            for (int k : NO_POLYNOMIALS) {
                refusedInVain("join(0, " + k + ")", INDEX, BoundaryIdealTests::rich, x -> x.join(0, k));
                refused("full, too", INDEX, () -> rich().join(2, k));
            }
        });
        sentence(16, "IllegalArgumentException: it is 0.", () -> {
            for (int i = 0; i < 4; i++) {
                int which = i;
                refusedInVain("join(" + i + ", 9)", ARGUMENT, BoundaryIdealTests::rich, x -> x.join(which, 9));
            }
        });
        sentence(16, "IllegalStateException: there are 8.", () ->
            refusedInVain("join(2, 1)", STATE, BoundaryIdealTests::rich, x -> x.join(2, 1)));
    }

    private static IdealWorks powers(int first, int second) {
        IdealWorks x = works(7, 2, 0);
        poly(x, 15, "x");
        for (int k = 0; k < first; k++) {
            x.join(0, 15);
        }
        poly(x, 15, "y");
        for (int k = 0; k < second; k++) {
            x.join(1, 15);
        }
        poly(x, 15, "x+y+1");
        x.join(2, 15);
        return x;
    }

    private static void both() {
        sentence(17, "Ideal to gets the generators of a and b (b's behind a's; product false), or all products of one of a with one of b"
            + " (a's first one with all of b, ..; product true; none, if one of them has none).", () -> {
            IdealWorks x = works(7, 2, 0);
            generate(x, 0, "x-1", "y-2");
            generate(x, 1, "x-3", "y-4");
            x.both(0, 1, true, 2);
            due("zeros of the one or the other", x.zeros(2), 2);
            due("zeros of the one or the other", point(x, 0, 2) + " " + point(x, 1, 2), "1,2 3,4");
            due("four products", generators(x, 2), 4);
            x.both(0, 1, false, 3);
            due("zeros of both", x.zeros(3), 0);
            x.basis(0, 1);
            x.basis(1, 1);
            x.both(0, 1, false, 3);
            due("a and b keep their bases", elements(x, 0) + "; " + elements(x, 1), "y+5, x+6; y+3, x+4");
            due("to has none", x.ideal(3, 1), NONE);
            due("four in all", generators(x, 3), 4);
            x.both(1, 1, false, 1);
            due("with itself, into itself", generators(x, 1), 4);
            due("what it had of its own is gone", x.join(2, 15), 6);
            x.both(0, 0, false, 2);
            due("what it had of its own is gone", generators(x, 2), 4);
        });
        sentence(17, "none, if one of them has none", () -> {
            for (int[] sizes : new int[][] {{0, 8}, {8, 0}, {0, 0}}) {
                IdealWorks x = powers(sizes[0], sizes[1]);
                x.both(0, 1, true, 2);
                due("no products", generators(x, 2), 0);
                x.both(1, 0, true, 0);
                due("no products", generators(x, 0), 0);
            }
            IdealWorks x = powers(0, 0);
            x.both(0, 1, false, 2);
            due("none at all", generators(x, 2), 0);
            IdealWorks y = powers(8, 0);
            y.both(0, 1, false, 2);
            due("eight and none", generators(y, 2), 8);
            y.both(1, 0, false, 2);
            due("none and eight", generators(y, 2), 8);
        });
        sentence(17, "IndexOutOfBoundsException: no such ideal.", () -> {
            for (int i : NO_IDEALS) {
                for (int k = 0; k < 2; k++) {
                    boolean product = k == 1;
                    refusedInVain("both: a", INDEX, BoundaryIdealTests::rich, x -> x.both(i, 0, product, 1));
                    refusedInVain("both: b", INDEX, BoundaryIdealTests::rich, x -> x.both(0, i, product, 1));
                    refusedInVain("both: to", INDEX, BoundaryIdealTests::rich, x -> x.both(0, 0, product, i));
                    refused("too many, too", INDEX, () -> rich().both(2, 2, product, i));
                }
            }
        });
        sentence(17, "IllegalStateException: there would be more than 8", () -> {
            for (int a = 0; a <= 8; a++) {
                for (int b = 0; b <= 8; b++) {
                    IdealWorks x = powers(a, b);
                    refused(a + " + " + b, a + b > 8 ? STATE : NOTHING, () -> x.both(0, 1, false, 2));
                    due("generators", generators(x, 2), a + b > 8 ? 1 : a + b);
                    IdealWorks y = powers(a, b);
                    refused(a + " * " + b, a * b > 8 ? STATE : NOTHING, () -> y.both(0, 1, true, 2));
                    due("generators", generators(y, 2), a * b > 8 ? 1 : a * b);
                }
            }
            refusedInVain("both(2, 0, false, 0)", STATE, BoundaryIdealTests::rich, x -> x.both(2, 0, false, 0));
            refusedInVain("both(0, 2, true, 2)", STATE, BoundaryIdealTests::rich, x -> x.both(0, 2, true, 2));
        });
        sentence(17, "or one of a higher degree than HIGHEST", () -> {
            for (int n = 1; n <= 4; n++) {
                IdealWorks x = works(7, n, 0);
                generate(x, 0, "x", "x^2+1");
                generate(x, 1, "x", "x^" + (HIGHEST[n] - 2));
                refused("at HIGHEST", NOTHING, () -> x.both(0, 1, true, 2));
                due("four", generators(x, 2), 4);
                generate(x, 1, "x", "x^" + (HIGHEST[n] - 1));
                refused("above HIGHEST", STATE, () -> x.both(0, 1, true, 3));
                due("nothing came", generators(x, 3), 0);
                refused("no products, no degree", NOTHING, () -> x.both(1, 1, false, 3));
            }
            refusedInVain("both(1, 1, true, 1)", STATE, BoundaryIdealTests::rich, x -> x.both(1, 1, true, 1));
            refusedInVain("both(0, 1, true, 0)", STATE, BoundaryIdealTests::rich, x -> x.both(0, 1, true, 0));
        });
    }

    // ---- promises 18 and 19 ----

    private static void basis() {
        sentence(18, "THE BASIS of ideal i up to degree d is found: how many polynomials it has.", () -> {
            IdealWorks x = works(7, 2, 0);
            due("without generators", x.basis(3, 0), 0);
            due("without generators", x.basis(3, 12), 0);
            generate(x, 0, "5");
            due("a number, up to 0", x.basis(0, 0), 1);
            due("a number, up to 12", x.basis(0, 12), 1);
            generate(x, 0, "x^12");
            due("up to 11", x.basis(0, 11), 0);
            due("up to 12", x.basis(0, 12), 1);
            generate(x, 0, "x^3", "x^2*y", "x*y^2", "y^3");
            due("four", x.basis(0, 3), 4);
            due("none of degree 2", x.basis(0, 2), 0);
            IdealWorks y = works(2, 4, 1);
            generate(y, 1, "x^2+x", "y^2+y", "z^2+z", "w^2+w", "x*y", "z*w", "x*w", "y*z");
            due("eight", y.basis(1, 5), 8);
        });
        sentence(18, "(It stays the basis of i until clear(), join() or both() is told to it, or field().)", () -> {
            IdealWorks x = works(7, 2, 0);
            generate(x, 0, "x^2-1", "y");
            generate(x, 1, "x");
            x.basis(0, 2);
            poly(x, 15, "x*y");
            x.basis(1, 1);
            x.both(0, 1, false, 2);
            x.clear(3);
            x.join(3, 15);
            x.remainder(0, 15, 14);
            x.radical(0, 15, 5);
            x.dictionary(0);
            x.zeros(0);
            refused("join", ARGUMENT, () -> x.join(0, 9));
            refused("basis", ARGUMENT, () -> x.basis(0, 13));
            refused("both", INDEX, () -> x.both(0, 0, true, 4));
            due("it stays", elements(x, 0), "y, x^2+6");
            due("it stays", x.ideal(0, 2), 2);
            x.basis(0, 5);
            due("until another", x.ideal(0, 2), 5);
            x.join(0, 15);
            due("until join()", x.ideal(0, 2), NONE);
            x.basis(0, 5);
            x.both(1, 1, false, 0);
            due("until both()", x.ideal(0, 2), NONE);
            x.basis(0, 5);
            x.both(0, 3, true, 0);
            due("until both() of itself", x.ideal(0, 2), NONE);
            x.basis(0, 5);
            x.clear(0);
            due("until clear()", x.ideal(0, 2), NONE);
            x.basis(0, 5);
            x.field(7, 2, 0);
            due("until field()", x.ideal(0, 2), NONE);
        });
        sentence(18, "IndexOutOfBoundsException: no such ideal.", () -> {
            for (int i : NO_IDEALS) {
                refusedInVain("basis(" + i + ", 1)", INDEX, BoundaryIdealTests::rich, x -> x.basis(i, 1));
                refused("no such degree, too", INDEX, () -> rich().basis(i, 13));
            }
        });
        sentence(18, "IllegalArgumentException: d is not 0 .. HIGHEST.", () -> {
            for (int n = 1; n <= 4; n++) {
                IdealWorks x = works(7, n, 0);
                for (int d = 0; d <= HIGHEST[n]; d++) {
                    int fine = d;
                    refused("basis(0, " + d + ")", NOTHING, () -> x.basis(0, fine));
                }
                for (int d : new int[] {-1, HIGHEST[n] + 1, LEAST, MOST}) {
                    refused("basis(0, " + d + ")", ARGUMENT, () -> x.basis(0, d));
                }
            }
            refusedInVain("basis(0, 13)", ARGUMENT, BoundaryIdealTests::rich, x -> x.basis(0, 13));
            refusedInVain("basis(0, -1)", ARGUMENT, BoundaryIdealTests::rich, x -> x.basis(0, -1));
        });
    }

    private static void element() {
        sentence(19, "Polynomial to becomes the k-th one of the basis of ideal i, by leading monomials, the least first.", () -> {
            for (int order = 0; order <= 1; order++) {
                IdealWorks x = works(7, 3, order);
                generate(x, 3, "3*x*z", "2*y^2", "z", "x^3+y");
                x.basis(3, 3);
                due("x*z goes with z", elements(x, 3), "z, y^2, x^3+y");
                generate(x, 2, "3*x*z", "2*y^2", "z^2", "x^3+y");
                x.basis(2, 3);
                due("by the order", elements(x, 2), order == 0 ? "z^2, x*z, y^2, x^3+y" : "z^2, y^2, x*z, x^3+y");
                x.element(2, 3, 15);
                due("the last, into 15", shown(x, 15), "x^3+y");
                x.element(2, 0, 0);
                due("the first, into 0", shown(x, 0), "z^2");
            }
        });
        sentence(19, "IndexOutOfBoundsException: no such ideal or polynomial.", () -> {
            for (int i : NO_IDEALS) {
                refusedInVain("element(" + i + ", 0, 1)", INDEX, BoundaryIdealTests::rich, x -> x.element(i, 0, 1));
            }
            for (int to : NO_POLYNOMIALS) {
                refusedInVain("element(0, 0, " + to + ")", INDEX, BoundaryIdealTests::rich, x -> x.element(0, 0, to));
                refused("no basis, too", INDEX, () -> rich().element(1, 0, to));
            }
        });
        sentence(19, "IllegalStateException: i has no basis.", () -> {
            refusedInVain("element(1, 0, 1)", STATE, BoundaryIdealTests::rich, x -> x.element(1, 0, 1));
            for (int k : new int[] {-1, 99, LEAST, MOST}) {
                refusedInVain("element(1, " + k + ", 1)", STATE, BoundaryIdealTests::rich, x -> x.element(1, k, 1));
            }
            refused("a new object", STATE, () -> new IdealWorks().element(0, 0, 0));
        });
        sentence(19, "IndexOutOfBoundsException, too: no such one in the basis.", () -> {
            for (int k : new int[] {-1, 2, 3, LEAST, MOST}) {
                refusedInVain("element(0, " + k + ", 1)", INDEX, BoundaryIdealTests::rich, x -> x.element(0, k, 1));
            }
            refused("the last", NOTHING, () -> rich().element(0, 1, 1));
            refused("of an empty basis", INDEX, () -> rich().element(3, 0, 1));
        });
    }

    // ---- promises 20 and 21 ----

    private static void dueIdeal(IdealWorks x, int complete, int size, int degree, int dimension) {
        due("complete", x.ideal(0, 0), complete);
        due("how many", x.ideal(0, 1), size);
        due("up to which", x.ideal(0, 2), degree);
        due("dimension", x.ideal(0, 3), dimension);
    }

    private static void ideal() {
        sentence(20, "1 if it is COMPLETE, else 0 (what = 0), how many polynomials (1), the degree up to which (2)", () -> {
            IdealWorks x = works(7, 2, 0);
            generate(x, 0, "x*y-1", "x^2");
            x.basis(0, 1);
            dueIdeal(x, 0, 0, 1, NONE);
            x.basis(0, 2);
            dueIdeal(x, 0, 2, 2, NONE);
            // x*(x*y-1) less y*x^2 is -x, and y*x less x*y-1 is 1
            x.basis(0, 3);
            dueIdeal(x, 1, 1, 3, NONE);
            x.basis(0, 12);
            dueIdeal(x, 1, 1, 12, NONE);
        });
        sentence(20, "if it is complete the dimension (3): the greatest number of variables of which alone no leading monomial is made, NONE if 1 is in the ideal", () -> {
            String[][] systems = {{"x"}, {"x", "y"}, {"x", "y", "z"}, {"x", "y", "z", "w"}, {"x*y"}, {"x*y*z*w"}, {"x*y", "z*w"},
                {"x^2", "x*y", "x*z", "x*w"}, {"x*y", "y*z", "z*w", "x*w", "x*z", "y*w"}, {"w^2"}, {"x*y", "w"}, {"3"}, {"x", "x+1"}};
            int[] dimensions = {3, 2, 1, 0, 3, 3, 2, 3, 1, 3, 2, NONE, NONE};
            for (int k = 0; k < systems.length; k++) {
                IdealWorks x = works(7, 4, 1);
                generate(x, 0, systems[k]);
                x.basis(0, 5);
                due("complete", x.ideal(0, 0), 1);
                due("dimension of " + String.join(", ", systems[k]), x.ideal(0, 3), dimensions[k]);
            }
            IdealWorks x = works(7, 1, 0);
            generate(x, 0, "x^30-1");
            x.basis(0, 30);
            due("one variable", x.ideal(0, 3), 0);
        });
        sentence(20, "NONE without such an ideal or its basis, or (3) if it is not complete, or for another what", () -> {
            IdealWorks x = rich();
            for (int what = 0; what <= 3; what++) {
                for (int i : NO_IDEALS) {
                    due("ideal(" + i + ", " + what + ")", x.ideal(i, what), NONE);
                }
                due("without a basis", x.ideal(1, what), NONE);
                due("without a basis", new IdealWorks().ideal(0, what), NONE);
            }
            for (int what : new int[] {-1, 4, 5, LEAST, MOST}) {
                due("another what", x.ideal(0, what), NONE);
            }
            x.basis(2, 1);
            due("not complete", x.ideal(2, 0), 0);
            due("not complete", x.ideal(2, 3), NONE);
        });
        sentence(20, "(Without generators: no polynomials, complete, N.)", () -> {
            for (int n = 1; n <= 4; n++) {
                IdealWorks x = works(7, n, 0);
                x.basis(0, 0);
                dueIdeal(x, 1, 0, 0, n);
                x.basis(0, HIGHEST[n]);
                dueIdeal(x, 1, 0, HIGHEST[n], n);
            }
        });
    }

    private static void standard() {
        sentence(21, "How many monomials of degree d are no leading monomials of the space of ideal i, up to its basis' degree", () -> {
            for (int n = 1; n <= 4; n++) {
                IdealWorks x = works(7, n, 0);
                x.basis(0, HIGHEST[n]);
                int all = 0;
                for (int d = 0; d <= HIGHEST[n]; d++) {
                    all += x.standard(0, d);
                }
                due("all monomials of " + n, all, new int[] {0, 31, 91, 120, 126}[n]);
                due("one of degree 0", x.standard(0, 0), 1);
                due("as many as variables of degree 1", x.standard(0, 1), n);
                generate(x, 0, "1");
                x.basis(0, HIGHEST[n]);
                for (int d = 0; d <= HIGHEST[n]; d++) {
                    due("none with 1 in it", x.standard(0, d), 0);
                }
            }
            IdealWorks x = works(7, 2, 0);
            generate(x, 0, "x*y-1", "x");
            x.basis(0, 1);
            due("x*y-1 is above 1", x.standard(0, 0) * 10 + x.standard(0, 1), 11);
            x.basis(0, 2);
            due("1 is in", x.standard(0, 0) * 10 + x.standard(0, 1), 0);
        });
        sentence(21, "NONE without such an ideal or its basis, or for another d.", () -> {
            IdealWorks x = rich();
            for (int i : NO_IDEALS) {
                due("standard(" + i + ", 0)", x.standard(i, 0), NONE);
            }
            due("without a basis", x.standard(1, 0), NONE);
            due("without a basis", new IdealWorks().standard(0, 0), NONE);
            for (int d : new int[] {-1, 4, 12, 13, 31, LEAST, MOST}) {
                due("standard(0, " + d + ")", x.standard(0, d), NONE);
            }
            due("of the basis' degree", x.standard(0, 3), 0);
            due("of an empty ideal's degree", x.standard(3, 1), 2);
            due("of a degree more", x.standard(3, 2), NONE);
        });
    }

    // ---- promises 22 to 24 ----

    private static void remainder() {
        sentence(22, "Polynomial to becomes the REMAINDER of a: whether that is 0.", () -> {
            IdealWorks x = works(7, 2, 0);
            x.basis(0, 12);
            poly(x, 0, "3*x^12+y");
            due("without generators", x.remainder(0, 0, 15), false);
            due("without generators", shown(x, 15), "3*x^12+y");
            due("0 without generators", x.remainder(0, 9, 15), true);
            due("0 without generators", shown(x, 15), "0");
            generate(x, 1, "x^2-y", "y^2-1");
            x.basis(1, 12);
            poly(x, 0, "x^12+1");
            due("x^4 is 1", x.remainder(1, 0, 1), false);
            due("x^4 is 1", shown(x, 1), "2");
            poly(x, 0, "x^12-1");
            due("in", x.remainder(1, 0, 0), true);
            due("into itself", shown(x, 0), "0");
            generate(x, 2, "3");
            x.basis(2, 0);
            poly(x, 0, "5");
            due("a number in the ideal of 3", x.remainder(2, 0, 0), true);
        });
        sentence(22, "IndexOutOfBoundsException: no such ideal or polynomial.", () -> {
            for (int i : NO_IDEALS) {
                refusedInVain("remainder(" + i + ", 1, 2)", INDEX, BoundaryIdealTests::rich, x -> x.remainder(i, 1, 2));
            }
            for (int k : NO_POLYNOMIALS) {
                refusedInVain("remainder(0, " + k + ", 2)", INDEX, BoundaryIdealTests::rich, x -> x.remainder(0, k, 2));
                refusedInVain("remainder(0, 1, " + k + ")", INDEX, BoundaryIdealTests::rich, x -> x.remainder(0, 1, k));
                refused("no basis, too", INDEX, () -> rich().remainder(1, 1, k));
                refused("of a higher degree, too", INDEX, () -> rich().remainder(0, 0, k));
            }
        });
        sentence(22, "IllegalStateException: i has no basis, or a is of a higher degree than that (0 is not).", () -> {
            refusedInVain("remainder(1, 1, 2)", STATE, BoundaryIdealTests::rich, x -> x.remainder(1, 1, 2));
            refusedInVain("remainder(1, 9, 2)", STATE, BoundaryIdealTests::rich, x -> x.remainder(1, 9, 2));
            refusedInVain("remainder(0, 0, 2)", STATE, BoundaryIdealTests::rich, x -> x.remainder(0, 0, 2));
            refusedInVain("remainder(3, 1, 2)", STATE, BoundaryIdealTests::rich, x -> x.remainder(3, 1, 2));
            refused("of the basis' degree", NOTHING, () -> rich().remainder(3, 2, 2));
            for (int d = 0; d <= 5; d++) {
                IdealWorks x = works(7, 4, 0);
                generate(x, 0, "1");
                x.basis(0, d);
                for (int e = 0; e <= 5; e++) {
                    poly(x, 0, "w^" + e);
                    refused("degree " + e + " with " + d, e > d ? STATE : NOTHING, () -> x.remainder(0, 0, 1));
                }
                due("0 is of no degree", x.remainder(0, 9, 1), true);
            }
        });
    }

    private static void proved() {
        sentence(23, "How many remainders that were 0 (since the beginning, of polynomials of any ideal) came with a proof that was reckoned out", () -> {
            IdealWorks x = new IdealWorks();
            due("at first", x.proved(), 0);
            for (int i = 0; i < 4; i++) {
                generate(x, i, "x^2+" + i, "x*y");
                x.basis(i, 6);
                poly(x, 0, "(x^2+" + i + ")*(x+3)^3*y+x*y*(y^3+2)");
                due("in", x.remainder(i, 0, 1), true);
                due("proved()", x.proved(), i + 1);
            }
            poly(x, 0, "x+1");
            due("not in", x.remainder(0, 0, 1), false);
            due("proved()", x.proved(), 4);
            x.clear(0);
            refused("without a basis", STATE, () -> x.remainder(0, 9, 1));
            due("proved()", x.proved(), 4);
            x.field(32003, 4, 1);
            due("since the beginning", x.proved(), 4);
        });
        sentence(23, "each a generator, or a sum of products of numbers and monomials with earlier ones, none of these above the basis' degree, of which the last one is that polynomial", () -> {
            IdealWorks x = works(7, 2, 0);
            generate(x, 0, "x*y-1", "x^2", "x^12*y^0+y");
            poly(x, 0, "1");
            x.basis(0, 2);
            due("not with products up to 2", x.remainder(0, 0, 1), false);
            due("proved()", x.proved(), 0);
            x.basis(0, 3);
            due("with products up to 3", x.remainder(0, 0, 1), true);
            due("proved()", x.proved(), 1);
            IdealWorks y = works(32003, 4, 0);
            generate(y, 0, "x^2-17*y*z+3", "y^2+w*x-5", "z^2-x-1000*w", "w^2-31999*x*y", "x*y*z*w-1", "x^5+w", "z^5-1", "y^4*w-x");
            y.basis(0, 5);
            for (int k = 0; k < y.ideal(0, 1); k++) {
                y.element(0, k, 0);
                due("each of the basis is in", y.remainder(0, 0, 1), true);
                due("proved()", y.proved(), k + 1);
            }
        });
        sentence(23, "(Of the polynomial 0, too. So as many as remainder() answered true.)", () -> {
            IdealWorks x = works(7, 2, 0);
            x.basis(0, 0);
            for (int k = 1; k <= 20; k++) {
                due("0", x.remainder(0, 0, 0), true);
                due("proved()", x.proved(), k);
            }
        });
        sentence(23, "So as many as remainder() answered true.", () -> {
            IdealWorks x = works(5, 3, 1);
            generate(x, 0, "x^2-y", "y^2-z", "z^2-x", "x*y*z-1");
            int answered = 0;
            for (int d = 0; d <= 7; d++) {
                x.basis(0, d);
                for (String s : new String[] {"0", "1", "x^2-y", "x^7-1", "x*y-z", "x^2*z-y*z"}) {
                    poly(x, 0, s);
                    try {
                        answered += x.remainder(0, 0, 1) ? 1 : 0;
                    } catch (IllegalStateException e) {
                        check(d < x.about(0, 1), s + " refused up to " + d);
                    }
                    due("proved() behind " + s + " up to " + d, x.proved(), answered);
                }
            }
        });
    }

    private static boolean inRadical(IdealWorks x, int i, String a, int d) {
        poly(x, 13, a);
        return x.radical(i, 13, d);
    }

    private static void radical() {
        sentence(24, "Whether 1 is in the space up to degree d of the generators of ideal i and 1 - t * a, with a new variable t behind the others", () -> {
            IdealWorks x = works(7, 2, 0);
            generate(x, 0, "x^2");
            // x*(1-t*x)+t*x^2 is x, by way of degree 3; then 1-t*x+t*x is 1
            due("x, up to 2", inRadical(x, 0, "x", 2), false);
            due("x, up to 3", inRadical(x, 0, "x", 3), true);
            due("x, up to 7", inRadical(x, 0, "x", 7), true);
            due("y, up to 7", inRadical(x, 0, "y", 7), false);
            due("0, up to 0", inRadical(x, 0, "0", 0), true);
            due("0, without generators", inRadical(x, 3, "0", 0), true);
            due("1, without generators", inRadical(x, 3, "1", 7), false);
            due("3, without generators", inRadical(x, 3, "3", 7), false);
            generate(x, 1, "4");
            due("all with a number in it", inRadical(x, 1, "x+y", 0), true);
            IdealWorks y = works(7, 3, 1);
            generate(y, 0, "x", "y", "z", "x", "y", "z", "x", "y");
            due("a full ideal", inRadical(y, 0, "x+y+z", 2), true);
            due("a full ideal", inRadical(y, 0, "x+1", 5), false);
            IdealWorks bits = works(2, 1, 0);
            generate(bits, 0, "x^3+x");
            due("the least P", inRadical(bits, 0, "x^2+x", 12), true);
            due("the least P", inRadical(bits, 0, "x", 12), false);
        });
        sentence(24, "generators, and that one, of a degree above d are left out", () -> {
            IdealWorks x = works(7, 2, 0);
            generate(x, 0, "x-1", "x^2-2");
            due("x^2-2 is above 1", inRadical(x, 0, "y^3", 1), false);
            due("x^2-2 is not above 2", inRadical(x, 0, "y^3", 2), true);
            generate(x, 1, "x");
            due("1-t*x is above 1", inRadical(x, 1, "x", 1), false);
            due("1-t*x is not above 2", inRadical(x, 1, "x", 2), true);
            generate(x, 2, "3", "x^7");
            due("all but 3 are above 0", inRadical(x, 2, "x^6", 0), true);
        });
        sentence(24, "IndexOutOfBoundsException: no such ideal or polynomial.", () -> {
            for (int i : NO_IDEALS) {
                refusedInVain("radical(" + i + ", 1, 2)", INDEX, BoundaryIdealTests::rich, x -> x.radical(i, 1, 2));
                refused("no such degree, too", INDEX, () -> rich().radical(i, 1, 8));
                refused("4 variables, too", INDEX, () -> rich(7, 4, 0).radical(i, 1, 0));
            }
            for (int k : NO_POLYNOMIALS) {
                refusedInVain("radical(0, " + k + ", 2)", INDEX, BoundaryIdealTests::rich, x -> x.radical(0, k, 2));
                refused("no such degree, too", INDEX, () -> rich().radical(0, k, -1));
                refused("4 variables, too", INDEX, () -> rich(7, 4, 0).radical(0, k, 0));
            }
        });
        sentence(24, "IllegalArgumentException: N is 4, d is not 0 .. HIGHEST of N + 1", () -> {
            for (int d : new int[] {-1, 0, 1, 5, 6}) {
                refusedInVain("radical(3, 9, " + d + ") of 4 variables", ARGUMENT, () -> rich(7, 4, 0), x -> x.radical(3, 9, d));
            }
            for (int n = 1; n <= 3; n++) {
                int most = HIGHEST[n + 1];
                IdealWorks x = works(7, n, 0);
                poly(x, 0, "x");
                for (int d = 0; d <= most; d++) {
                    int fine = d;
                    refused("radical up to " + d, NOTHING, () -> x.radical(0, 0, fine));
                }
                for (int d : new int[] {-1, most + 1, HIGHEST[n], LEAST, MOST}) {
                    refused("radical up to " + d, ARGUMENT, () -> x.radical(0, 0, d));
                }
            }
            refusedInVain("radical(0, 1, 8)", ARGUMENT, BoundaryIdealTests::rich, x -> x.radical(0, 1, 8));
            refusedInVain("radical(0, 1, -1)", ARGUMENT, BoundaryIdealTests::rich, x -> x.radical(0, 1, -1));
        });
        sentence(24, "or one of these polynomials (1 - t * a, too) is of a higher degree than HIGHEST of N + 1", () -> {
            for (int n = 1; n <= 3; n++) {
                int most = HIGHEST[n + 1];
                for (int d : new int[] {0, 1, most}) {
                    IdealWorks x = works(7, n, 0);
                    generate(x, 0, "x", "x^" + most);
                    generate(x, 1, "x^" + (most + 1), "x");
                    poly(x, 0, "x^" + (most - 1));
                    poly(x, 1, "x^" + most);
                    refused("all at HIGHEST", NOTHING, () -> x.radical(0, 0, d));
                    refused("1 - t * a above it", ARGUMENT, () -> x.radical(0, 1, d));
                    refused("1 - t * a above it, without generators", ARGUMENT, () -> x.radical(3, 1, d));
                    refused("a generator above it", ARGUMENT, () -> x.radical(1, 0, d));
                    refused("a generator above it, a is 0", ARGUMENT, () -> x.radical(1, 9, d));
                }
            }
            refusedInVain("radical(1, 1, 3)", ARGUMENT, BoundaryIdealTests::rich, x -> x.radical(1, 1, 3));
            refusedInVain("radical(0, 0, 3)", ARGUMENT, BoundaryIdealTests::rich, x -> x.radical(0, 0, 3));
        });
        sentence(24, "(so that some power of a is in the ideal)", () ->
            due("the basis and all else stay", afterRadical(), everything(rich())));
    }

    private static String afterRadical() {
        IdealWorks x = rich();
        x.radical(0, 1, 7);
        x.radical(2, 2, 0);
        return everything(x);
    }

    // ---- promises 25 and 26 ----

    private static IdealWorks staircase(String... generators) {
        IdealWorks x = works(7, 2, 0);
        generate(x, 1, "x-1", "y-2");
        x.basis(1, 1);
        x.dictionary(1);
        generate(x, 0, generators);
        x.basis(0, 12);
        due("complete", x.ideal(0, 0), 1);
        return x;
    }

    private static void dictionary() {
        sentence(25, "that one is greater whose first exponent that differs is greater", () -> {
            for (int order = 0; order <= 1; order++) {
                IdealWorks x = works(7, 2, order);
                generate(x, 0, "x-y^3", "y^4-1");
                x.basis(0, 12);
                due("dictionary", x.dictionary(0), 2);
                due("the least", entries(x, 0), "1:0,4,0,0 6:0,0,0,0 ");
                due("x is greater than y^3", entries(x, 1), "1:1,0,0,0 6:0,3,0,0 ");
            }
        });
        sentence(25, "Only if the basis is complete, 1 is not in the ideal, and at most 40 monomials (of any degree) are no leading monomials' multiples: how many polynomials the reduced basis by that order has", () -> {
            IdealWorks x = staircase("x^6", "x^4*y^6", "y^7");
            due("40 monomials", x.dictionary(0), 3);
            IdealWorks full = works(11, 4, 0);
            generate(full, 0, "x^2-y", "y^2-z", "z^2-w", "w^5-x");
            full.basis(0, 5);
            due("40 monomials of 4 variables, up to degree 7", full.dictionary(0), 4);
            IdealWorks one = works(7, 2, 0);
            generate(one, 0, "x-1", "y-2");
            one.basis(0, 1);
            due("one monomial", one.dictionary(0), 2);
            due("y-2", entries(one, 0), "1:0,1,0,0 5:0,0,0,0 ");
            due("x-1", entries(one, 1), "1:1,0,0,0 6:0,0,0,0 ");
            IdealWorks line = works(7, 1, 0);
            generate(line, 0, "x^30-x");
            line.basis(0, 30);
            due("30 monomials of one variable", line.dictionary(0), 1);
            due("x^30-x", entries(line, 0), "1:30,0,0,0 6:1,0,0,0 ");
            IdealWorks bits = works(2, 3, 1);
            generate(bits, 0, "x+y*z+1", "y^2+z", "z^2+y");
            bits.basis(0, 7);
            due("the least P", bits.dictionary(0), 3);
            due("z^4+z", entries(bits, 0), "1:0,0,4,0 1:0,0,1,0 ");
            due("y+z^2", entries(bits, 1), "1:0,1,0,0 1:0,0,2,0 ");
            due("x+z^3+1", entries(bits, 2), "1:1,0,0,0 1:0,0,3,0 1:0,0,0,0 ");
        });
        sentence(25, "IndexOutOfBoundsException: no such ideal.", () -> {
            for (int i : NO_IDEALS) {
                refusedInVain("dictionary(" + i + ")", INDEX, BoundaryIdealTests::rich, x -> x.dictionary(i));
            }
        });
        sentence(25, "IllegalStateException: otherwise (without a basis, too).", () -> {
            refused("41 monomials", STATE, () -> staircase("x^6", "x^5*y^6", "y^7").dictionary(0));
            refused("42 monomials", STATE, () -> staircase("x^6", "y^7").dictionary(0));
            refused("1 is in", STATE, () -> staircase("x", "x+1").dictionary(0));
            refused("a number", STATE, () -> staircase("3").dictionary(0));
            refused("dimension 1", STATE, () -> staircase("x").dictionary(0));
            refused("dimension 2", STATE, () -> staircase().dictionary(0));
            refused("without a basis", STATE, () -> new IdealWorks().dictionary(0));
            refusedInVain("dictionary(1)", STATE, BoundaryIdealTests::rich, x -> x.dictionary(1));
            refusedInVain("dictionary(3)", STATE, BoundaryIdealTests::rich, x -> x.dictionary(3));
            IdealWorks x = staircase("x^2-y", "y^2-1");
            x.basis(0, 1);
            refused("not complete: none of the generators", STATE, () -> x.dictionary(0));
            generate(x, 0, "x", "y", "x^2");
            x.basis(0, 1);
            refused("not complete: one of the generators is above", STATE, () -> x.dictionary(0));
            x.basis(0, 2);
            refused("complete", NOTHING, () -> x.dictionary(0));
            generate(x, 0, "x^2*y-1", "x*y^2-1", "x^3", "y^3");
            x.basis(0, 3);
            refused("not complete: a pair is above", STATE, () -> x.dictionary(0));
        });
    }

    private static void entry() {
        sentence(26, "Of polynomial k of the latest dictionary() that was not refused (by leading monomials, the least first), of its term j (the greatest is 0), exponent what (0 .. 3; 0 beyond its N), or the coefficient (4).", () -> {
            IdealWorks x = staircase("x*y-1", "x^2-2*y^2");
            // 1 is x^2*y^2, which is 2*y^4; and x, which is x*2*y^4, is 2*y^3
            due("dictionary", x.dictionary(0), 2);
            due("the least", entries(x, 0), "1:0,4,0,0 3:0,0,0,0 ");
            due("the greatest", entries(x, 1), "1:1,0,0,0 5:0,3,0,0 ");
            x.clear(0);
            refused("without a basis", STATE, () -> x.dictionary(0));
            refused("no such ideal", INDEX, () -> x.dictionary(4));
            due("the latest not refused", entries(x, 1), "1:1,0,0,0 5:0,3,0,0 ");
            x.field(7, 1, 0);
            due("as many variables as there were", entries(x, 1), "1:1,0,0,0 5:0,3,0,0 ");
            x.field(11, 4, 1);
            due("beyond its N", x.entry(0, 0, 2), 0);
            due("beyond its N", x.entry(0, 0, 3), 0);
            generate(x, 0, "x-1", "y-2", "z-3", "w-4");
            x.basis(0, 1);
            due("a later one", x.dictionary(0), 4);
            due("w-4", entries(x, 0), "1:0,0,0,1 7:0,0,0,0 ");
            due("x-1", entries(x, 3), "1:1,0,0,0 10:0,0,0,0 ");
            x.field(7, 1, 0);
            generate(x, 0, "x-1");
            x.basis(0, 1);
            due("a shorter one", x.dictionary(0), 1);
            due("x-1", entries(x, 0), "1:1,0,0,0 6:0,0,0,0 ");
            due("nothing of the longer one", x.entry(1, 0, 0), NONE);
            due("nothing of the longer one", x.entry(0, 0, 3), 0);
        });
        sentence(26, "Of polynomial k of the latest dictionary() that was not refused (by leading monomials, the least first), of its term j (the greatest is 0)", () -> {
            IdealWorks x = works(3, 1, 0);
            StringBuilder s = new StringBuilder("x^30");
            StringBuilder due = new StringBuilder("1:30,0,0,0 ");
            for (int e = 29; e >= 0; e--) {
                s.append("+2*x^").append(e);
                due.append("2:").append(e).append(",0,0,0 ");
            }
            generate(x, 0, s.toString());
            x.basis(0, 30);
            x.dictionary(0);
            due("31 terms", entries(x, 0), due.toString());
        });
        sentence(26, "NONE if there is none such.", () -> {
            IdealWorks x = rich();
            for (int what = -1; what <= 5; what++) {
                due("before any dictionary()", new IdealWorks().entry(0, 0, what), NONE);
            }
            for (int what : new int[] {-1, 5, 6, LEAST, MOST}) {
                due("no such what", x.entry(0, 0, what), NONE);
                due("no such what", x.entry(0, 1, what), NONE);
            }
            for (int k : new int[] {-1, 2, 3, 160, 161, LEAST, MOST}) {
                due("no polynomial " + k, x.entry(k, 0, 0), NONE);
            }
            for (int j : new int[] {-1, 2, 3, 40, 41, LEAST, MOST}) {
                due("no term " + j, x.entry(0, j, 0), NONE);
                due("no term " + j, x.entry(0, j, 4), NONE);
            }
            due("the last term", x.entry(0, 1, 4), 6);
        });
    }

    // ---- promises 27 and 28 ----

    private static void zeros() {
        sentence(27, "How many common zeros in the field the generators of ideal i have (without any all points).", () -> {
            int[][] fields = {{2, 1, 2}, {19997, 1, 19997}, {139, 2, 19321}, {23, 3, 12167}, {11, 4, 14641}, {2, 4, 16}};
            for (int[] f : fields) {
                due("all points of " + f[0] + " to the power of " + f[1], works(f[0], f[1], 0).zeros(3), f[2]);
            }
            IdealWorks x = works(7, 2, 0);
            generate(x, 0, "5");
            due("none", x.zeros(0), 0);
            generate(x, 0, "x", "x-1");
            due("none", x.zeros(0), 0);
            generate(x, 0, "x^2-3");
            due("3 is no square of the field", x.zeros(0), 0);
            generate(x, 0, "x^2-2");
            due("2 is one", x.zeros(0), 14);
            generate(x, 0, "x^7-x");
            due("all points", x.zeros(0), 49);
            generate(x, 0, "x", "x", "x", "x", "x", "x", "x", "y-6");
            due("eight generators, the last tells", x.zeros(0), 1);
            due("eight generators, the last tells", point(x, 0, 2), "0,6");
            generate(x, 0, "x^2", "y^2");
            due("a double zero counts once", x.zeros(0), 1);
            IdealWorks line = works(31, 1, 0);
            generate(line, 0, "2*x^30-2");
            due("a power of HIGHEST is 1 but of 0", line.zeros(0), 30);
            due("a power of HIGHEST is 1 but of 0", line.zero(0, 0), 1);
            IdealWorks bits = works(2, 4, 1);
            generate(bits, 0, "x*y*z*w+1");
            due("the least P", bits.zeros(0), 1);
            due("the least P", point(bits, 0, 4), "1,1,1,1");
        });
        sentence(27, "IndexOutOfBoundsException: no such ideal.", () -> {
            for (int i : NO_IDEALS) {
                refusedInVain("zeros(" + i + ")", INDEX, BoundaryIdealTests::rich, x -> x.zeros(i));
                refused("too many points, too", INDEX, () -> rich(149, 2, 0).zeros(i));
            }
        });
        sentence(27, "IllegalStateException: P to the power of N is above 20,000.", () -> {
            int[][] fields = {{20011, 1}, {32003, 1}, {149, 2}, {29, 3}, {13, 4}, {32003, 4}, {32003, 3}, {32003, 2}, {181, 3}, {181, 4}};
            for (int[] f : fields) {
                IdealWorks x = works(f[0], f[1], 0);
                refused(f[0] + " to the power of " + f[1], STATE, () -> x.zeros(0));
                generate(x, 0, "1");
                refused("with no zeros, too", STATE, () -> x.zeros(0));
            }
            refusedInVain("zeros(0)", STATE, () -> rich(149, 2, 0), x -> x.zeros(0));
            refusedInVain("zeros(3)", STATE, () -> rich(13, 4, 0), x -> x.zeros(3));
        });
    }

    private static void zero() {
        sentence(28, "Variable v of zero k of the latest zeros() that was not refused (in the order of the first variable, then the second, ..; the first 200).", () -> {
            IdealWorks x = works(3, 4, 0);
            due("81 points", x.zeros(0), 81);
            for (int k = 0; k < 81; k++) {
                due("point " + k, point(x, k, 4), k / 27 + "," + k / 9 % 3 + "," + k / 3 % 3 + "," + k % 3);
            }
            IdealWorks y = works(19997, 1, 0);
            y.zeros(0);
            due("the first", y.zero(0, 0), 0);
            due("the 200th", y.zero(199, 0), 199);
            for (int k : new int[] {200, 201, 800, 19996, 19997, MOST}) {
                due("beyond the 200th", y.zero(k, 0), NONE);
            }
            IdealWorks z = works(7, 2, 0);
            generate(z, 0, "x*(x-5)", "y*(y-3)");
            due("four", z.zeros(0), 4);
            due("in order", point(z, 0, 2) + " " + point(z, 1, 2) + " " + point(z, 2, 2) + " " + point(z, 3, 2), "0,0 0,3 5,0 5,3");
            refused("no such ideal", INDEX, () -> z.zeros(4));
            z.clear(0);
            z.field(149, 2, 0);
            refused("too many points", STATE, () -> z.zeros(0));
            due("the latest not refused", point(z, 3, 2), "5,3");
            z.field(7, 1, 0);
            due("as many variables as there were", point(z, 3, 3), "5,3,-1");
            generate(z, 0, "x-6");
            z.zeros(0);
            due("a later one", z.zero(0, 0), 6);
            due("nothing of the earlier one", z.zero(1, 0), NONE);
            due("nothing of the earlier one", z.zero(0, 1), NONE);
        });
        sentence(28, "NONE if there is none such (so of a variable beyond the N there were).", () -> {
            due("before any zeros()", new IdealWorks().zero(0, 0), NONE);
            IdealWorks x = rich(7, 4, 0);
            for (int k : new int[] {-1, 2, 3, 199, 200, LEAST, MOST}) {
                due("zero(" + k + ", 0)", x.zero(k, 0), NONE);
            }
            for (int v : new int[] {-1, 2, 3, 4, LEAST, MOST}) {
                due("zero(0, " + v + ")", x.zero(0, v), NONE);
                due("zero(1, " + v + ")", x.zero(1, v), NONE);
            }
            due("the last of both", x.zero(1, 1), 1);
            for (int n = 1; n <= 4; n++) {
                IdealWorks y = works(2, n, 0);
                y.zeros(0);
                due("the last variable of " + n, y.zero(0, n - 1), 0);
                due("the variable beyond " + n, y.zero(0, n), NONE);
            }
            IdealWorks z = works(7, 2, 0);
            z.zeros(0);
            generate(z, 0, "1");
            due("no zeros", z.zeros(0), 0);
            due("no zeros", z.zero(0, 0), NONE);
        });
    }

    public static void main(String[] args) {
        clear();
        join();
        both();
        basis();
        element();
        ideal();
        standard();
        remainder();
        proved();
        radical();
        dictionary();
        entry();
        zeros();
        zero();
        everyPromiseIsQuoted(15, 28);
        finish("every boundary of promises 15 to 28 holds");
    }
}
