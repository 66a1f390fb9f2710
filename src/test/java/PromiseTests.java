/** For each promise of the document: ordinary inputs, the edges that it names, and wrong inputs. */
public final class PromiseTests extends Bench {
    private static final int[] ODD = {-1, Integer.MIN_VALUE, Integer.MAX_VALUE};

    private static void newObject() {
        promise = 1;
        IdealWorks x = new IdealWorks();
        for (int k = 0; k < 16; k++) {
            due("about", x.about(k, 0), 0);
            due("about", x.about(k, 1), NONE);
        }
        due("output(0)", x.output(0), NONE);
        due("proved()", x.proved(), 0);
        due("fault(0)", x.fault(0), 0);
        due("fault(1)", x.fault(1), NONE);
        due("entry", x.entry(0, 0, 0), NONE);
        due("zero", x.zero(0, 0), NONE);
        for (int i = 0; i < 4; i++) {
            due("ideal", x.ideal(i, 1), NONE);
            due("standard", x.standard(i, 0), NONE);
            due("basis", x.basis(i, 12), 0);
            due("ideal", x.ideal(i, 3), 2);
            due("zeros", x.zeros(i), 49);
        }
        due("end(0)", x.end(0), 0);
        refused("read of nothing", 2, () -> x.read(0));
        due("fault(1)", x.fault(1), 0);
        poly(x, 0, "8*x*y+6");
        due("modulo 7", shown(x, 0), "x*y+6");
        text(x, "z");
        refused("z beyond 2 variables", 2, () -> x.read(0));
        refused("HIGHEST is 12", 2, () -> x.basis(0, 13));
    }

    private static void field() {
        promise = 2;
        IdealWorks x = works(5, 3, 1);
        poly(x, 0, "x^2+y*z+3");
        x.join(0, 0);
        x.basis(0, 3);
        x.print(0);
        for (int p : new int[] {0, 1, -1, -7, 4, 9, 91, 31999 * 2, 32001, 32002, 32004, 32009, Integer.MAX_VALUE, Integer.MIN_VALUE}) {
            refused("field(" + p + ", 2, 0)", 2, () -> x.field(p, 2, 0));
        }
        for (int n : new int[] {0, 5, -1, Integer.MAX_VALUE, Integer.MIN_VALUE}) {
            refused("field(7, " + n + ", 0)", 2, () -> x.field(7, n, 0));
        }
        for (int order : new int[] {-1, 2, Integer.MAX_VALUE, Integer.MIN_VALUE}) {
            refused("field(7, 2, " + order + ")", 2, () -> x.field(7, 2, order));
        }
        due("a refused field() leaves the basis", x.ideal(0, 1), 1);
        due("a refused field() leaves the polynomial", x.about(0, 0), 3);
        due("a refused field() leaves the output", x.output(0), 'x');
        for (int p : new int[] {2, 3, 5, 7, 181, 31991, 32003}) {
            refused("field(" + p + ", 1, 1)", 0, () -> x.field(p, 1, 1));
        }
        fieldStays();
    }

    private static void fieldStays() {
        IdealWorks x = works(5, 2, 0);
        generate(x, 0, "x^2*y+x", "y^2-1");
        x.basis(0, 12);
        due("dictionary", x.dictionary(0), 2);
        int top = x.entry(0, 0, 1);
        int found = x.zeros(0);
        int first = x.zero(0, 1);
        poly(x, 0, "y^2-1");
        due("remainder", x.remainder(0, 0, 1) ? 1 : 0, 1);
        text(x, "x+$");
        refused("read", 2, () -> x.read(3));
        x.print(0);
        text(x, "x*y");
        x.feed(0x2B780000, 0, 0, 0, 0);
        x.field(3, 3, 1);
        due("the zeros stay", found > 0 ? x.zero(0, 1) : first, first);
        due("a zero's variable beyond the 2 there were", x.zero(0, 2), NONE);
        due("the dictionary stays", x.entry(0, 0, 1), top);
        due("proved() stays", x.proved(), 1);
        due("fault(0) stays", x.fault(0), 1);
        due("fault(1) stays", x.fault(1), 2);
        due("no output", x.output(0), NONE);
        due("the text and the bytes stay", x.end(2), 5);
        due("read", x.read(4), 2);
        due("what was read", shown(x, 4), "x*y+x");
        due("polynomials are 0", x.about(0, 0), 0);
        due("no basis", x.ideal(0, 1), NONE);
        due("no generators", x.join(0, 4), 1);
    }

    private static void feed() {
        promise = 3;
        IdealWorks x = works(32003, 4, 0);
        x.feed(0x782B792B, 0x7A2B772B, 0x31322B78, 0x2A782A78, 0x2A792B33);
        due("end(20)", x.end(20), 20);
        due("read", x.read(0), 6);
        due("twenty bytes in order", shown(x, 0), "x^3*y+x+y+z+w+15");
        x.feed(0x78787878, 0x78787878, 0x78787878, 0x78787878, 0x78787878);
        x.feed(0x79000000, 0, 0, 0, 0);
        x.end(1);
        x.read(0);
        due("the later bytes are those that are ready", shown(x, 0), "y");
        x.feed(0xF8000000, 0, 0, 0, 0);
        x.end(1);
        refused("a byte above 127", 2, () -> x.read(0));
        due("fault(1)", x.fault(1), 0);
    }

    private static void end() {
        promise = 4;
        IdealWorks x = works(7, 2, 0);
        due("end(3) of bytes 0", x.end(3), 3);
        refused("bytes are 0 at first", 2, () -> x.read(0));
        due("fault(1)", x.fault(1), 0);
        x.feed(0x782B7900, 0, 0, 0, 0);
        for (int n : new int[] {-1, 21, 400, Integer.MIN_VALUE, Integer.MAX_VALUE}) {
            due("end(" + n + ")", x.end(n), NONE);
        }
        due("bytes stay behind NONE", x.end(3), 3);
        due("bytes are 0 behind a number", x.end(1), 4);
        refused("read", 2, () -> x.read(0));
        due("the 0 is what can't stand there", x.fault(1), 3);
        x.feed(0x78000000, 0, 0, 0, 0);
        due("end(0) is a number", x.end(0), 0);
        due("end(1)", x.end(1), 1);
        refused("read of a 0", 2, () -> x.read(0));
        endAtFourHundred();
    }

    private static void endAtFourHundred() {
        IdealWorks x = works(7, 2, 0);
        for (int k = 1; k <= 19; k++) {
            x.feed(0x20202020, 0x20202020, 0x20202020, 0x20202020, 0x20202020);
            due("end(20)", x.end(20), 20 * k);
        }
        x.feed(0x20202020, 0x20202020, 0x20202020, 0x20202020, 0x20202078);
        due("end(1)", x.end(1), 381);
        x.feed(0x20202020, 0x20202020, 0x20202020, 0x20202020, 0x20207820);
        due("401 bytes are too many", x.end(20), NONE);
        due("400 bytes are not", x.end(19), 400);
        due("end(1)", x.end(1), NONE);
        due("end(0)", x.end(0), 400);
        due("read", x.read(1), 1);
        due("the text is empty then", x.end(0), 0);
        due("print", shown(x, 1), "x");
    }

    private static void right(IdealWorks x, String s, String shown) {
        text(x, s);
        refused("read of " + s, 0, () -> x.read(3));
        due("fault(0) of " + s, x.fault(0), 0);
        due("fault(1) of " + s, x.fault(1), NONE);
        due("what " + s + " means", shown(x, 3), shown);
        due("the text is empty behind " + s, x.end(0), 0);
    }

    private static void faulty(IdealWorks x, String s, int fault, int place) {
        poly(x, 3, "x+2");
        text(x, s);
        refused("read of " + s, 2, () -> x.read(3));
        due("fault(0) of " + s, x.fault(0), fault);
        due("fault(1) of " + s, x.fault(1), place);
        due("the text is empty behind " + s, x.end(0), 0);
        due("the polynomial stays behind " + s, shown(x, 3), "x+2");
    }

    private static void read() {
        promise = 5;
        IdealWorks x = works(7, 2, 0);
        right(x, "-(-x)", "x");
        right(x, "x ^ 2", "x^2");
        right(x, "  - x * y - 3 ", "6*x*y+4");
        right(x, "-x^2", "6*x^2");
        right(x, "(-x)^2", "x^2");
        right(x, "1-2-3", "3");
        right(x, "2*3*4", "3");
        right(x, "123456789", "1");
        right(x, "999999999*x", "5*x");
        right(x, "0000007", "0");
        right(x, "x-x", "0");
        right(x, "0^0", "1");
        right(x, "(x-x)^00", "1");
        right(x, "x^0", "1");
        right(x, "0^99", "0");
        right(x, "3^99", "6");
        right(x, "x^12", "x^12");
        right(x, "x^05", "x^5");
        right(x, "(x+y)^7", "x^7+y^7");
        right(x, "(x+1)^2*(y-1)", "x^2*y+6*x^2+2*x*y+5*x+y+6");
        right(x, "x^12*7*x^12", "0");
        right(x, "7*x^12*x^12", "0");
        right(x, "(7*x)^13", "0");
        right(x, "(x^12+y-x^12)^12", "y^12");
        right(x, "(".repeat(20) + "x" + ")".repeat(20), "x");
        right(x, "(x)+".repeat(30) + "x", "3*x");
        right(x, "((x)+(y))*((x)-(y))", "x^2+6*y^2");
        for (int k : new int[] {-1, 16, Integer.MIN_VALUE, Integer.MAX_VALUE}) {
            text(x, "y");
            refused("read(" + k + ")", 1, () -> x.read(k));
            due("the text stays", x.end(0), 1);
            due("read", x.read(0), 1);
        }
        due("how many terms", readTerms(x, "x*y+x+1+y-x"), 3);
        due("how many terms of 0", readTerms(x, "x-x"), 0);
    }

    private static int readTerms(IdealWorks x, String s) {
        text(x, s);
        return x.read(15);
    }

    private static void fault() {
        promise = 6;
        IdealWorks x = works(7, 2, 0);
        faulty(x, "x^2^3", 1, 3);
        faulty(x, "x--1", 1, 2);
        faulty(x, "2x", 1, 1);
        faulty(x, "z", 1, 0);
        faulty(x, "x*w", 1, 2);
        faulty(x, "", 1, 0);
        faulty(x, "   ", 1, 3);
        faulty(x, "x+", 1, 2);
        faulty(x, "x* ", 1, 3);
        faulty(x, "(x", 1, 2);
        faulty(x, "(x  ", 1, 4);
        faulty(x, "x)", 1, 1);
        faulty(x, "()", 1, 1);
        faulty(x, "+x", 1, 0);
        faulty(x, "--x", 1, 1);
        faulty(x, "x*-1", 1, 2);
        faulty(x, "x+-1", 1, 2);
        faulty(x, "x\t", 1, 1);
        faulty(x, "1 2", 1, 2);
        faulty(x, "x y", 1, 2);
        faulty(x, "x(y)", 1, 1);
        faulty(x, "(x)(y)", 1, 3);
        faulty(x, "x^", 1, 2);
        faulty(x, "x^ ", 1, 3);
        faulty(x, "x^y", 1, 2);
        faulty(x, "x^-1", 1, 2);
        faulty(x, "x^(2)", 1, 2);
        faulty(x, "x**y", 1, 2);
        faulty(x, "X", 1, 0);
        faulty(x, "(".repeat(21), 2, 20);
        faulty(x, "(".repeat(21) + "x" + ")".repeat(21), 2, 20);
        faulty(x, "x+" + "(".repeat(22), 2, 22);
        faulty(x, "(".repeat(20) + "x(", 1, 21);
        faulty(x, "x^13", 3, 1);
        faulty(x, "x ^ 13", 3, 2);
        faulty(x, "(x*y)^7", 3, 5);
        faulty(x, "x^12*y", 3, 4);
        faulty(x, "x^6 * (y^6+1) * x", 3, 14);
        faulty(x, "x^12*x^12*7", 3, 4);
        faulty(x, "x^13+$", 3, 1);
        faulty(x, "x^12*y$", 3, 4);
        faulty(x, "x^12*y^$", 1, 7);
        faulty(x, "x^12*(y+$", 1, 8);
        faulty(x, "x^12*y^2^3", 3, 4);
        faulty(x, "x^12*(y)^0^3", 1, 10);
        faulty(x, "1234567890", 4, 0);
        faulty(x, "x+0000000001", 4, 2);
        faulty(x, "x^123", 4, 2);
        faulty(x, "x^001", 4, 2);
        faulty(x, "x^12*1234567890", 4, 5);
        faulty(x, "x^12*x^123", 4, 7);
        faulty(x, "x*1234567890$", 4, 2);
        faulty(x, "\u0000", 1, 0);
        faulty(x, "x\u00a0", 1, 1);
        text(x, "y");
        refused("read(16)", 1, () -> x.read(16));
        due("a read() refused for k is not the latest", x.fault(0), 1);
        x.read(0);
        due("fault(0)", x.fault(0), 0);
        for (int what : new int[] {-1, 2, 3, Integer.MIN_VALUE, Integer.MAX_VALUE}) {
            due("fault(" + what + ")", x.fault(what), NONE);
        }
        faultByVariables();
    }

    private static void faultByVariables() {
        int[] highest = {0, 30, 12, 7, 5};
        String letters = "xyzw";
        for (int n = 1; n <= 4; n++) {
            IdealWorks x = works(5, n, 1);
            right(x, "x^" + highest[n], "x^" + highest[n]);
            faulty(x, "x^" + (highest[n] + 1), 3, 1);
            right(x, "" + letters.charAt(n - 1), "" + letters.charAt(n - 1));
            if (n < 4) {
                faulty(x, "1+" + letters.charAt(n), 1, 2);
            }
        }
    }

    private static void add() {
        promise = 7;
        IdealWorks x = works(7, 2, 0);
        poly(x, 0, "x+3");
        poly(x, 1, "y+2*x");
        x.add(0, 3, 1, 2);
        due("a + 3 * b", shown(x, 2), "3*y+3");
        x.add(0, -1, 1, 2);
        due("a - b", shown(x, 2), "6*x+6*y+3");
        x.add(0, Integer.MIN_VALUE, 1, 2);
        due("the least int is 5 modulo 7", shown(x, 2), "4*x+5*y+3");
        x.add(0, Integer.MAX_VALUE, 1, 2);
        due("the greatest int is 1 modulo 7", shown(x, 2), "3*x+y+3");
        x.add(0, 6, 0, 0);
        due("into itself", shown(x, 0), "0");
        for (int k : new int[] {-1, 16, Integer.MIN_VALUE, Integer.MAX_VALUE}) {
            refused("add", 1, () -> x.add(k, 1, 1, 2));
            refused("add", 1, () -> x.add(1, 1, k, 2));
            refused("add", 1, () -> x.add(1, 1, 1, k));
        }
        due("nothing changed", shown(x, 2), "3*x+y+3");
    }

    private static void multiply() {
        promise = 8;
        IdealWorks x = works(32003, 2, 1);
        poly(x, 0, "32002*x+32002");
        poly(x, 1, "32001*y+1");
        x.multiply(0, 1, 2);
        due("a * b", shown(x, 2), "2*x*y+32002*x+2*y+32002");
        x.multiply(0, 0, 0);
        due("into itself", shown(x, 0), "x^2+2*x+1");
        poly(x, 3, "x^10+y");
        x.multiply(3, 0, 4);
        due("degree 12", x.about(4, 1), 12);
        refused("degree 13", 3, () -> x.multiply(4, 1, 5));
        refused("degree 20", 3, () -> x.multiply(3, 3, 3));
        due("nothing changed", shown(x, 3), "x^10+y");
        x.multiply(4, 9, 5);
        due("times 0", x.about(5, 0), 0);
        for (int k : new int[] {-1, 16, Integer.MIN_VALUE, Integer.MAX_VALUE}) {
            refused("multiply", 1, () -> x.multiply(k, 3, 2));
            refused("multiply", 1, () -> x.multiply(3, k, 2));
            refused("Index is told ahead of State", 1, () -> x.multiply(3, 3, k));
        }
    }

    private static void derive() {
        promise = 9;
        IdealWorks x = works(5, 3, 0);
        poly(x, 0, "x^5+x^2*y^3*z+4*z+2");
        x.derive(0, 0, 1);
        due("by x", shown(x, 1), "2*x*y^3*z");
        x.derive(0, 1, 1);
        due("by y", shown(x, 1), "3*x^2*y^2*z");
        x.derive(0, 2, 0);
        due("by z, into itself", shown(x, 0), "x^2*y^3+4");
        for (int k : new int[] {-1, 16, Integer.MIN_VALUE, Integer.MAX_VALUE}) {
            refused("derive", 1, () -> x.derive(k, 0, 1));
            refused("derive", 1, () -> x.derive(0, 0, k));
        }
        for (int v : new int[] {-1, 3, 4, Integer.MIN_VALUE, Integer.MAX_VALUE}) {
            refused("derive by " + v, 1, () -> x.derive(0, v, 1));
        }
        due("nothing changed", shown(x, 1), "3*x^2*y^2*z");
    }

    private static void put() {
        promise = 10;
        IdealWorks x = works(7, 2, 0);
        poly(x, 0, "x^3*y+x*y^2+x^2+5");
        x.put(0, 0, 2, 1);
        due("2 for x", shown(x, 1), "2*y^2+y+2");
        x.put(0, 0, 0, 1);
        due("0 for x", shown(x, 1), "5");
        x.put(0, 1, -1, 1);
        due("-1 for y", shown(x, 1), "6*x^3+x^2+x+5");
        x.put(0, 1, Integer.MIN_VALUE, 1);
        due("5 for y", shown(x, 1), "5*x^3+x^2+4*x+5");
        x.put(0, 0, 1, 0);
        due("into itself", shown(x, 0), "y^2+y+6");
        poly(x, 2, "2*y^12+x^12+1");
        x.put(2, 1, 3, 1);
        due("3 for y in the 12th power", shown(x, 1), "x^12+3");
        for (int k : new int[] {-1, 16, Integer.MIN_VALUE, Integer.MAX_VALUE}) {
            refused("put", 1, () -> x.put(k, 0, 1, 1));
            refused("put", 1, () -> x.put(0, 0, 1, k));
        }
        for (int v : new int[] {-1, 2, 4, Integer.MIN_VALUE, Integer.MAX_VALUE}) {
            refused("put for " + v, 1, () -> x.put(0, v, 1, 1));
        }
    }

    private static void about() {
        promise = 11;
        IdealWorks x = works(7, 4, 0);
        poly(x, 15, "x*y*z*w+x^2+7+w");
        due("terms", x.about(15, 0), 3);
        due("degree", x.about(15, 1), 4);
        due("another what", x.about(15, 2), NONE);
        due("another what", x.about(15, -1), NONE);
        due("terms of 0", x.about(0, 0), 0);
        due("degree of 0", x.about(0, 1), NONE);
        poly(x, 0, "3");
        due("degree of 3", x.about(0, 1), 0);
        for (int k : new int[] {-1, 16, Integer.MIN_VALUE, Integer.MAX_VALUE}) {
            due("about(" + k + ", 0)", x.about(k, 0), NONE);
            due("about(" + k + ", 1)", x.about(k, 1), NONE);
        }
    }

    private static void term() {
        promise = 12;
        IdealWorks x = works(7, 3, 0);
        poly(x, 2, "x*z+2*y^2+z^3+4");
        int[][] terms = {{0, 0, 3, 0, 1}, {0, 2, 0, 0, 2}, {1, 0, 1, 0, 1}, {0, 0, 0, 0, 4}};
        for (int i = 0; i < 4; i++) {
            for (int what = 0; what <= 4; what++) {
                due("term(2, " + i + ", " + what + ")", x.term(2, i, what), terms[i][what]);
            }
            due("another what", x.term(2, i, 5), NONE);
            due("another what", x.term(2, i, -1), NONE);
        }
        for (int i : new int[] {-1, 4, Integer.MIN_VALUE, Integer.MAX_VALUE}) {
            due("no such term", x.term(2, i, 0), NONE);
            due("no such polynomial", x.term(i == 4 ? 16 : i, 0, 0), NONE);
        }
        due("no term of 0", x.term(0, 0, 4), NONE);
        x.field(7, 3, 1);
        poly(x, 2, "x*z+2*y^2+z^3+4");
        due("ORDER 1: the first exponent that differs", x.term(2, 1, 0), 1);
        due("ORDER 1", x.term(2, 2, 1), 2);
    }

    private static void print() {
        promise = 13;
        IdealWorks x = works(32003, 4, 0);
        due("print of 0", x.print(0), 1);
        due("print of 0", shown(x, 0), "0");
        poly(x, 1, "1+w^2+2*x*y*z+32002*z*w^4+x");
        due("print", shown(x, 1), "32002*z*w^4+2*x*y*z+w^2+x+1");
        poly(x, 1, "x*z+y^2+y*w+z^2+x*w+z*w");
        due("ORDER 0", shown(x, 1), "y^2+x*z+z^2+x*w+y*w+z*w");
        poly(x, 1, "-1");
        due("print", shown(x, 1), "32002");
        poly(x, 1, "(12345*x+23456*y+31234*z+29999*w+30001)^5");
        due("126 terms", x.about(1, 0), 126);
        String all = shown(x, 1);
        due("print's length", x.print(1), all.length());
        x.field(32003, 4, 1);
        poly(x, 1, "x*z+y^2+y*w+z^2+x*w+z*w");
        due("ORDER 1", shown(x, 1), "x*z+x*w+y^2+y*w+z^2+z*w");
        for (int k : new int[] {-1, 16, Integer.MIN_VALUE, Integer.MAX_VALUE}) {
            refused("print(" + k + ")", 1, () -> x.print(k));
        }
        due("a refused print() leaves the output", x.output(0), 'x');
        IdealWorks y = works(31991, 1, 0);
        poly(y, 0, "x^30+x^29+10*x^10+100*x^2+20000*x+30100");
        due("print", shown(y, 0), "x^30+x^29+10*x^10+100*x^2+20000*x+30100");
        longest();
    }

    /** The longest output there is: 120 terms with coefficients of five digits. */
    private static void longest() {
        IdealWorks x = works(32003, 3, 0);
        int terms = 0;
        for (int seed = 10000; terms < 120 && seed < 12000; seed++) {
            poly(x, 0, "(" + seed + "*x+23456*y+31234*z+30001)^7");
            poly(x, 1, "12000*(1+x)*(1+y)*(1+z)*(1+x+y+z)^4");
            x.add(0, 17, 1, 0);
            terms = x.about(0, 0);
        }
        due("terms", terms, 120);
        String all = shown(x, 0);
        check(all.length() > 1500 && all.split("\\+").length == 120, "an output of " + all.length());
        due("the end of the output", x.output(all.length()), NONE);
    }

    private static void output() {
        promise = 14;
        IdealWorks x = works(7, 2, 0);
        due("no output", x.output(0), NONE);
        poly(x, 0, "x+6");
        due("print", x.print(0), 3);
        due("output(0)", x.output(0), 'x');
        due("output(1)", x.output(1), '+');
        due("output(2)", x.output(2), '6');
        for (int i : new int[] {-1, 3, 4, Integer.MIN_VALUE, Integer.MAX_VALUE}) {
            due("output(" + i + ")", x.output(i), NONE);
        }
        x.print(1);
        due("output(0)", x.output(0), '0');
        due("a shorter output", x.output(1), NONE);
    }

    private static void clear() {
        promise = 15;
        IdealWorks x = works(7, 2, 0);
        generate(x, 3, "x", "y");
        x.basis(3, 2);
        x.clear(3);
        due("no basis", x.ideal(3, 1), NONE);
        due("no generators", x.basis(3, 2), 0);
        poly(x, 0, "x");
        due("no generators", x.join(3, 0), 1);
        for (int i : new int[] {-1, 4, Integer.MIN_VALUE, Integer.MAX_VALUE}) {
            refused("clear(" + i + ")", 1, () -> x.clear(i));
        }
    }

    private static void join() {
        promise = 16;
        IdealWorks x = works(7, 2, 0);
        poly(x, 0, "x+1");
        for (int k = 1; k <= 8; k++) {
            due("join", x.join(2, 0), k);
        }
        x.basis(2, 1);
        refused("a ninth one", 3, () -> x.join(2, 0));
        refused("Argument is told ahead of State", 2, () -> x.join(2, 1));
        due("a refused join() leaves the basis", x.ideal(2, 1), 1);
        refused("0", 2, () -> x.join(0, 1));
        for (int k : new int[] {-1, 16, Integer.MIN_VALUE, Integer.MAX_VALUE}) {
            refused("join", 1, () -> x.join(0, k));
        }
        for (int i : new int[] {-1, 4, Integer.MIN_VALUE, Integer.MAX_VALUE}) {
            refused("join", 1, () -> x.join(i, 1));
        }
        x.join(1, 0);
        poly(x, 0, "y^2");
        x.basis(1, 1);
        due("the polynomial as it was", element(x, 1, 0), "x+1");
        x.join(1, 0);
        due("no basis behind join()", x.ideal(1, 1), NONE);
    }

    private static void both() {
        promise = 17;
        IdealWorks x = works(7, 2, 0);
        generate(x, 0, "x", "y");
        generate(x, 1, "x+1", "y+1", "x*y");
        x.basis(0, 1);
        x.both(0, 1, false, 2);
        x.basis(2, 2);
        due("1 is in the sum", element(x, 2, 0), "1");
        due("basis of another stays", x.ideal(0, 1), 2);
        x.both(0, 1, true, 2);
        due("no basis behind both()", x.ideal(2, 1), NONE);
        poly(x, 9, "1");
        due("six products", x.join(2, 9), 7);
        refused("nine products", 3, () -> x.both(1, 1, true, 2));
        due("nothing changed", x.join(2, 9), 8);
        refused("ten generators", 3, () -> x.both(2, 0, false, 2));
        x.both(0, 3, true, 2);
        due("no products with none", x.join(2, 9), 1);
        x.both(3, 3, false, 2);
        due("none at all", x.join(2, 9), 1);
        x.both(0, 0, true, 0);
        x.basis(0, 2);
        due("into itself: products", element(x, 0, 0) + " " + element(x, 0, 1) + " " + element(x, 0, 2), "y^2 x*y x^2");
        due("four products", x.join(0, 9), 5);
        generate(x, 0, "x", "y");
        x.both(1, 0, false, 0);
        due("into itself: five", x.join(0, 9), 6);
        bothRefused();
    }

    private static void bothRefused() {
        IdealWorks x = works(7, 2, 0);
        generate(x, 0, "x^7", "y");
        generate(x, 1, "x^5", "x^6");
        refused("degree 13", 3, () -> x.both(0, 1, true, 1));
        x.basis(1, 6);
        due("nothing changed", element(x, 1, 0), "x^5");
        generate(x, 1, "x^5");
        refused("degree 12", 0, () -> x.both(0, 1, true, 1));
        generate(x, 2, "x", "x", "x", "x");
        x.both(2, 2, false, 3);
        poly(x, 9, "1");
        refused("there are 8", 3, () -> x.join(3, 9));
        for (int i : new int[] {-1, 4, Integer.MIN_VALUE, Integer.MAX_VALUE}) {
            refused("both", 1, () -> x.both(i, 0, true, 0));
            refused("both", 1, () -> x.both(0, i, false, 0));
            refused("Index is told ahead of State", 1, () -> x.both(3, 3, false, i));
        }
    }

    private static void basis() {
        promise = 18;
        IdealWorks x = works(5, 2, 0);
        generate(x, 0, "x^2*y+x", "y^2-1");
        due("basis(0, 1)", x.basis(0, 1), 0);
        due("basis(0, 2)", x.basis(0, 2), 1);
        due("basis(0, 3)", x.basis(0, 3), 2);
        due("up to degree 3", element(x, 0, 0) + " " + element(x, 0, 1), "y^2+4 x^2*y+x");
        // y*(x^2*y+x) less x^2*(y^2-1) is x^2+x*y, and that is of a lesser degree
        due("basis(0, 4)", x.basis(0, 4), 2);
        due("up to degree 4", element(x, 0, 0) + " " + element(x, 0, 1), "y^2+4 x^2+x*y");
        due("basis(0, 12)", x.basis(0, 12), 2);
        due("up to degree 12", element(x, 0, 0) + " " + element(x, 0, 1), "y^2+4 x^2+x*y");
        generate(x, 3, "3*x^2+x*y+y", "x*y+2", "2*y^3+1");
        x.basis(3, 2);
        due("the tail is reduced", element(x, 3, 1), "x^2+2*y+1");
        generate(x, 1, "x*y-1", "x", "y^12");
        due("1 is found", x.basis(1, 2), 1);
        due("1", element(x, 1, 0), "1");
        generate(x, 2, "3");
        due("a number, up to degree 0", x.basis(2, 0), 1);
        generate(x, 2, "x^2-y", "x^3");
        due("up to degree 2", x.basis(2, 2), 1);
        for (int d : new int[] {-1, 13, Integer.MIN_VALUE, Integer.MAX_VALUE}) {
            refused("basis(0, " + d + ")", 2, () -> x.basis(0, d));
            refused("Index is told ahead of Argument", 1, () -> x.basis(4, d));
        }
        due("a refused basis() leaves the basis", x.ideal(0, 2), 12);
        for (int i : ODD) {
            refused("basis", 1, () -> x.basis(i, 1));
        }
        int[] highest = {0, 30, 12, 7, 5};
        for (int n = 1; n <= 4; n++) {
            IdealWorks y = works(3, n, 1);
            int most = highest[n];
            refused("basis up to HIGHEST", 0, () -> y.basis(0, most));
            refused("basis above HIGHEST", 2, () -> y.basis(0, most + 1));
        }
    }

    private static void element() {
        promise = 19;
        IdealWorks x = works(7, 3, 0);
        generate(x, 0, "x+y+z-1", "x^2-y^2+2", "x*z");
        refused("no basis", 3, () -> x.element(0, 0, 1));
        refused("no basis is told first", 3, () -> x.element(0, 99, 1));
        x.basis(0, 5);
        String all = "";
        for (int k = 0; k < x.ideal(0, 1); k++) {
            all += element(x, 0, k) + " ";
        }
        due("by leading monomials, the least first", all, "x+y+z+6 z^2+2*y+4 y*z+5*y+6*z+3 y^2+3*y+3*z+2 ");
        for (int k = 1; k < x.ideal(0, 1); k++) {
            x.element(0, k - 1, 1);
            x.element(0, k, 2);
            check(x.about(1, 1) <= x.about(2, 1), "elements are out of order");
            due("coefficient 1", x.term(2, 0, 4), 1);
        }
        int size = x.ideal(0, 1);
        for (int k : new int[] {-1, size, Integer.MIN_VALUE, Integer.MAX_VALUE}) {
            refused("no such one", 1, () -> x.element(0, k, 1));
        }
        for (int k : new int[] {-1, 16, Integer.MIN_VALUE, Integer.MAX_VALUE}) {
            refused("no such polynomial", 1, () -> x.element(1, 0, k));
            refused("no such ideal", 1, () -> x.element(k, 0, 0));
        }
    }

    private static void ideal() {
        promise = 20;
        IdealWorks x = works(5, 3, 0);
        for (int what = -1; what <= 4; what++) {
            due("without a basis", x.ideal(0, what), NONE);
            for (int i : new int[] {-1, 4, Integer.MIN_VALUE, Integer.MAX_VALUE}) {
                due("no such ideal", x.ideal(i, what), NONE);
            }
        }
        x.basis(0, 4);
        dueIdeal(x, 0, 1, 0, 4, 3);
        generate(x, 0, "x*y", "x*z");
        x.basis(0, 2);
        dueIdeal(x, 0, 0, 2, 2, NONE);
        x.basis(0, 3);
        dueIdeal(x, 0, 1, 2, 3, 2);
        generate(x, 0, "x*y", "z^3");
        x.basis(0, 2);
        dueIdeal(x, 0, 0, 1, 2, NONE);
        x.basis(0, 3);
        dueIdeal(x, 0, 1, 2, 3, 1);
        generate(x, 0, "x^3", "y^3-x", "z^3-y");
        x.basis(0, 3);
        dueIdeal(x, 0, 1, 3, 3, 0);
        generate(x, 0, "2");
        x.basis(0, 0);
        dueIdeal(x, 0, 1, 1, 0, NONE);
        generate(x, 0, "2", "x");
        x.basis(0, 0);
        dueIdeal(x, 0, 0, 1, 0, NONE);
        x.basis(0, 1);
        dueIdeal(x, 0, 1, 1, 1, NONE);
    }

    private static void dueIdeal(IdealWorks x, int i, int complete, int size, int degree, int dimension) {
        due("complete", x.ideal(i, 0), complete);
        due("how many", x.ideal(i, 1), size);
        due("up to which degree", x.ideal(i, 2), degree);
        due("dimension", x.ideal(i, 3), dimension);
        due("another what", x.ideal(i, 4), NONE);
        due("another what", x.ideal(i, -1), NONE);
    }

    private static void standard() {
        promise = 21;
        IdealWorks x = works(5, 3, 1);
        due("without a basis", x.standard(0, 0), NONE);
        x.basis(0, 4);
        int[] all = {1, 3, 6, 10, 15};
        for (int d = 0; d <= 4; d++) {
            due("all monomials", x.standard(0, d), all[d]);
        }
        due("above the basis' degree", x.standard(0, 5), NONE);
        generate(x, 1, "x^2", "y^2+x*z", "x*y*z");
        x.basis(1, 7);
        due("degree 0", x.standard(1, 0), 1);
        due("degree 1", x.standard(1, 1), 3);
        due("degree 2", x.standard(1, 2), 4);
        for (int d : new int[] {-1, 8, Integer.MIN_VALUE, Integer.MAX_VALUE}) {
            due("standard(1, " + d + ")", x.standard(1, d), NONE);
        }
        for (int i : new int[] {-1, 4, Integer.MIN_VALUE, Integer.MAX_VALUE}) {
            due("no such ideal", x.standard(i, 0), NONE);
        }
        generate(x, 2, "1");
        x.basis(2, 3);
        due("nothing is left", x.standard(2, 0) + x.standard(2, 1) + x.standard(2, 3), 0);
    }

    private static void remainder() {
        promise = 22;
        IdealWorks x = works(5, 2, 0);
        poly(x, 0, "x^3");
        refused("no basis", 3, () -> x.remainder(0, 0, 1));
        generate(x, 0, "x^2-y", "y^2-1");
        x.basis(0, 4);
        due("x^3 is not in", x.remainder(0, 0, 1) ? 1 : 0, 0);
        due("x^3", shown(x, 1), "x*y");
        poly(x, 0, "x^4+x^2-y-1");
        due("in", x.remainder(0, 0, 0) ? 1 : 0, 1);
        due("into itself", x.about(0, 0), 0);
        poly(x, 0, "x^5");
        poly(x, 1, "x");
        refused("degree 5 above 4", 3, () -> x.remainder(0, 0, 1));
        due("nothing changed", shown(x, 1), "x");
        x.clear(1);
        x.basis(1, 0);
        due("0 is of no degree", x.remainder(1, 9, 1) ? 1 : 0, 1);
        refused("degree 5 above 0", 3, () -> x.remainder(1, 0, 1));
        poly(x, 2, "3");
        due("3 without generators", x.remainder(1, 2, 1) ? 1 : 0, 0);
        due("3", shown(x, 1), "3");
        generate(x, 2, "x*y-1", "x");
        x.basis(2, 2);
        poly(x, 2, "x^2+4*x*y+y+3");
        due("all is in", x.remainder(2, 2, 1) ? 1 : 0, 1);
        x.basis(2, 1);
        poly(x, 2, "x+y");
        due("up to degree 1 it is not", x.remainder(2, 2, 1) ? 1 : 0, 0);
        due("x+y", shown(x, 1), "y");
        for (int k : new int[] {-1, 16, Integer.MIN_VALUE, Integer.MAX_VALUE}) {
            refused("no such polynomial", 1, () -> x.remainder(3, k, 0));
            refused("no such polynomial", 1, () -> x.remainder(3, 0, k));
            refused("no such ideal", 1, () -> x.remainder(k, 0, 0));
        }
        refused("no such ideal", 1, () -> x.remainder(4, 0, 0));
    }

    private static void proved() {
        promise = 23;
        IdealWorks x = works(101, 3, 0);
        generate(x, 0, "x^2-y*z+3", "x*y+z^2-7*x", "y^3+z+1");
        x.basis(0, 7);
        poly(x, 0, "(x^2-y*z+3)*(x+y)^3+(x*y+z^2-7*x)*z^5");
        due("in", x.remainder(0, 0, 1) ? 1 : 0, 1);
        due("proved()", x.proved(), 1);
        due("0 is in", x.remainder(0, 1, 1) ? 1 : 0, 1);
        due("proved()", x.proved(), 2);
        poly(x, 0, "x+17");
        int in = x.remainder(0, 0, 1) ? 3 : 2;
        due("proved()", x.proved(), in);
        refused("no basis", 3, () -> x.remainder(1, 0, 1));
        due("proved()", x.proved(), in);
        for (int k = 0; k < x.ideal(0, 1); k++) {
            x.element(0, k, 2);
            due("each of the basis is in", x.remainder(0, 2, 3) ? 1 : 0, 1);
            in++;
            due("proved()", x.proved(), in);
        }
        generate(x, 1, "x*y*z-1", "x^2+y");
        x.basis(1, 5);
        poly(x, 0, "(x*y*z-1)*z+3*(x^2+y)*x*y*z");
        due("of another ideal", x.remainder(1, 0, 0) ? 1 : 0, 1);
        due("proved()", x.proved(), in + 1);
        x.field(2, 1, 0);
        x.basis(0, 0);
        due("0 without generators", x.remainder(0, 0, 0) ? 1 : 0, 1);
        due("since the beginning", x.proved(), in + 2);
    }

    private static int inRadical(IdealWorks x, int i, String a, int d) {
        poly(x, 13, a);
        return x.radical(i, 13, d) ? 1 : 0;
    }

    private static void radical() {
        promise = 24;
        IdealWorks x = works(7, 2, 0);
        generate(x, 0, "x^2", "y^3");
        due("x", inRadical(x, 0, "x", 4), 1);
        due("x, up to a degree that is too low", inRadical(x, 0, "x", 1), 0);
        due("x+y", inRadical(x, 0, "x+y", 7), 1);
        due("x+1", inRadical(x, 0, "x+1", 7), 0);
        due("0", inRadical(x, 0, "0", 0), 1);
        due("0, without generators", inRadical(x, 3, "0", 0), 1);
        due("1, without generators", inRadical(x, 3, "1", 7), 0);
        generate(x, 1, "5");
        due("all is in the ideal of 5", inRadical(x, 1, "x+1", 0), 1);
        generate(x, 1, "x-1", "x^2-2");
        due("generators above d are left out", inRadical(x, 1, "y", 1), 0);
        due("1 is in the ideal", inRadical(x, 1, "y", 2), 1);
        poly(x, 1, "x^6");
        poly(x, 2, "x^7");
        refused("1-t*a of degree 7", 0, () -> x.radical(0, 1, 7));
        refused("1-t*a of degree 8", 2, () -> x.radical(0, 2, 7));
        refused("1-t*a of degree 8, d less", 2, () -> x.radical(0, 2, 3));
        generate(x, 2, "x^7");
        refused("a generator of degree 7", 0, () -> x.radical(2, 1, 7));
        generate(x, 2, "y", "x^8");
        refused("a generator of degree 8", 2, () -> x.radical(2, 1, 0));
        for (int d : new int[] {-1, 8, Integer.MIN_VALUE, Integer.MAX_VALUE}) {
            refused("radical up to " + d, 2, () -> x.radical(0, 1, d));
            refused("Index is told ahead of Argument", 1, () -> x.radical(4, 1, d));
            refused("Index is told ahead of Argument", 1, () -> x.radical(0, 16, d));
        }
        for (int i : ODD) {
            refused("no such ideal", 1, () -> x.radical(i, 1, 1));
            refused("no such polynomial", 1, () -> x.radical(0, i, 1));
        }
        x.basis(0, 3);
        x.radical(0, 1, 5);
        due("the basis stays", x.ideal(0, 2), 3);
        radicalByVariables();
    }

    private static void radicalByVariables() {
        IdealWorks x = works(7, 1, 0);
        generate(x, 0, "x^4-2*x^3+x^2");
        due("x^2-x", inRadical(x, 0, "x^2-x", 12), 1);
        due("x-1", inRadical(x, 0, "x-1", 12), 0);
        poly(x, 0, "x^11");
        refused("up to 12 with 1 variable", 0, () -> x.radical(0, 0, 12));
        refused("up to 13 with 1 variable", 2, () -> x.radical(0, 0, 13));
        x.field(7, 3, 1);
        generate(x, 0, "x^2", "y^2-x", "z^2-y", "x", "y^2", "x*y", "z^4", "z^3");
        due("z, with eight generators", inRadical(x, 0, "z", 5), 1);
        poly(x, 0, "x");
        refused("up to 6 with 3 variables", 2, () -> x.radical(0, 0, 6));
        x.field(7, 4, 0);
        poly(x, 0, "x");
        refused("4 variables", 2, () -> x.radical(0, 0, 0));
        refused("Index is told first", 1, () -> x.radical(0, 16, 0));
    }

    private static void dictionary() {
        promise = 25;
        IdealWorks x = works(7, 2, 0);
        refused("without a basis", 3, () -> x.dictionary(0));
        x.basis(0, 3);
        refused("all monomials are left", 3, () -> x.dictionary(0));
        generate(x, 0, "y^5-x", "x^5-y");
        x.basis(0, 4);
        refused("not complete", 3, () -> x.dictionary(0));
        x.basis(0, 5);
        due("dictionary", x.dictionary(0), 2);
        due("a degree above HIGHEST", entries(x, 0), "1:0,25,0,0 6:0,1,0,0 ");
        due("x-y^5", entries(x, 1), "1:1,0,0,0 6:0,5,0,0 ");
        generate(x, 1, "x^6", "x^4*y^6", "y^7");
        x.basis(1, 12);
        due("complete", x.ideal(1, 0), 1);
        due("40 monomials", x.dictionary(1), 3);
        generate(x, 1, "x^6", "x^5*y^6", "y^7");
        x.basis(1, 12);
        due("complete", x.ideal(1, 0), 1);
        refused("41 monomials", 3, () -> x.dictionary(1));
        generate(x, 1, "x^6", "y^7-x");
        x.basis(1, 12);
        refused("42 monomials", 3, () -> x.dictionary(1));
        generate(x, 1, "x", "x+1");
        x.basis(1, 2);
        refused("1 is in", 3, () -> x.dictionary(1));
        generate(x, 1, "x*y");
        x.basis(1, 2);
        refused("dimension 1", 3, () -> x.dictionary(1));
        due("the latest that was not refused", entries(x, 0), "1:0,7,0,0 ");
        for (int i : new int[] {-1, 4, Integer.MIN_VALUE, Integer.MAX_VALUE}) {
            refused("no such ideal", 1, () -> x.dictionary(i));
        }
        dictionaryByOrders();
    }

    private static void dictionaryByOrders() {
        for (int order = 0; order <= 1; order++) {
            IdealWorks x = works(32003, 4, order);
            generate(x, 0, "x^5-w", "y^2-z", "z^2-1", "w-y");
            x.basis(0, 5);
            due("complete", x.ideal(0, 0), 1);
            due("dictionary", x.dictionary(0), 4);
            due("w", entries(x, 0), "1:0,0,0,4 32002:0,0,0,0 ");
            due("z", entries(x, 1), "1:0,0,1,0 32002:0,0,0,2 ");
            due("y", entries(x, 2), "1:0,1,0,0 32002:0,0,0,1 ");
            due("x", entries(x, 3), "1:5,0,0,0 32002:0,0,0,1 ");
        }
        IdealWorks full = works(11, 4, 1);
        generate(full, 0, "x^2-y", "y^2-z", "z^2-w", "w^5-x");
        full.basis(0, 5);
        due("40 monomials of 4 variables", full.dictionary(0), 4);
        due("w", entries(full, 0), "1:0,0,0,40 10:0,0,0,1 ");
        due("z", entries(full, 1), "1:0,0,1,0 10:0,0,0,20 ");
        due("y", entries(full, 2), "1:0,1,0,0 10:0,0,0,10 ");
        due("x", entries(full, 3), "1:1,0,0,0 10:0,0,0,5 ");
        IdealWorks y = works(3, 1, 0);
        generate(y, 0, "x^30+x+1", "x^30+x+1");
        y.basis(0, 30);
        due("one variable", y.dictionary(0), 1);
        due("one variable", entries(y, 0), "1:30,0,0,0 1:1,0,0,0 1:0,0,0,0 ");
    }

    private static void entry() {
        promise = 26;
        IdealWorks x = works(7, 2, 0);
        generate(x, 0, "x^2+2*y", "y^2+3*x*y+5");
        x.basis(0, 6);
        due("dictionary", x.dictionary(0), 2);
        due("the least first", x.entry(0, 0, 0), 0);
        due("leading coefficient", x.entry(0, 0, 4), 1);
        due("the greater one", x.entry(1, 0, 0), 1);
        for (int what : new int[] {-1, 5, Integer.MIN_VALUE, Integer.MAX_VALUE}) {
            due("entry(0, 0, " + what + ")", x.entry(0, 0, what), NONE);
        }
        for (int k : new int[] {-1, 2, Integer.MIN_VALUE, Integer.MAX_VALUE}) {
            due("entry(" + k + ", 0, 0)", x.entry(k, 0, 0), NONE);
        }
        for (int j : new int[] {-1, 40, Integer.MIN_VALUE, Integer.MAX_VALUE}) {
            due("entry(0, " + j + ", 0)", x.entry(0, j, 0), NONE);
        }
        due("an exponent beyond the 2 variables", x.entry(0, 0, 2), 0);
        due("an exponent beyond the 2 variables", x.entry(0, 0, 3), 0);
        String first = entries(x, 0);
        x.clear(0);
        x.field(11, 4, 1);
        due("it stays", entries(x, 0), first);
    }

    private static void zeros() {
        promise = 27;
        IdealWorks x = works(7, 2, 0);
        due("all points", x.zeros(0), 49);
        generate(x, 0, "x^2+y^2-1");
        due("a circle", x.zeros(0), 8);
        generate(x, 0, "x^2+y^2-1", "x-y");
        due("two points", x.zeros(0), 2);
        generate(x, 0, "x^2+y^2-1", "3");
        due("no point", x.zeros(0), 0);
        generate(x, 0, "x^7-x", "y^7-y");
        due("all points", x.zeros(0), 49);
        zerosOf(2, 4, 16);
        zerosOf(11, 4, 14641);
        zerosOf(13, 4, NONE);
        zerosOf(23, 3, 12167);
        zerosOf(29, 3, NONE);
        zerosOf(139, 2, 19321);
        zerosOf(149, 2, NONE);
        zerosOf(19997, 1, 19997);
        zerosOf(20011, 1, NONE);
        zerosOf(32003, 4, NONE);
        for (int i : new int[] {-1, 4, Integer.MIN_VALUE, Integer.MAX_VALUE}) {
            refused("no such ideal", 1, () -> x.zeros(i));
        }
        IdealWorks y = works(149, 2, 0);
        refused("Index is told ahead of State", 1, () -> y.zeros(4));
        IdealWorks z = works(19997, 1, 0);
        generate(z, 0, "(x-5)*(x-19996)*(x^2)", "x^3-5*x^2+x^2-5*x");
        due("three of one variable", z.zeros(0), 3);
        generate(x, 1, "x-1", "x-1", "x^2-1", "x-1", "x-1", "x-1", "x-1", "y-2");
        due("eight generators", x.zeros(1), 1);
        due("eight generators", x.zero(0, 0) * 10 + x.zero(0, 1), 12);
        IdealWorks v = works(31, 1, 0);
        generate(v, 0, "x^30-1");
        due("all but 0 have the 30th power 1", v.zeros(0), 30);
        due("the first", v.zero(0, 0), 1);
        IdealWorks w = works(5, 4, 1);
        generate(w, 0, "x-1", "y-x-1", "z+w", "w^2-4");
        due("four variables", w.zeros(0), 2);
        due("the first", w.zero(0, 0) * 1000 + w.zero(0, 1) * 100 + w.zero(0, 2) * 10 + w.zero(0, 3), 1223);
        due("the second", w.zero(1, 0) * 1000 + w.zero(1, 1) * 100 + w.zero(1, 2) * 10 + w.zero(1, 3), 1232);
    }

    private static void zerosOf(int p, int n, int points) {
        IdealWorks x = works(p, n, 0);
        if (points == NONE) {
            refused("too many points", 3, () -> x.zeros(0));
        } else {
            due("all points", x.zeros(0), points);
        }
    }

    private static void zero() {
        promise = 28;
        IdealWorks x = works(19, 2, 0);
        x.zeros(0);
        for (int k = 0; k < 200; k++) {
            due("zero(" + k + ", 0)", x.zero(k, 0), k / 19);
            due("zero(" + k + ", 1)", x.zero(k, 1), k % 19);
        }
        due("the first 200 only", x.zero(200, 0), NONE);
        for (int k : ODD) {
            due("zero(" + k + ", 0)", x.zero(k, 0), NONE);
            due("zero(0, " + k + ")", x.zero(0, k), NONE);
        }
        due("a variable beyond the 2", x.zero(0, 2), NONE);
        due("a variable beyond the 2", x.zero(0, 3), NONE);
        generate(x, 0, "x^2-4", "y-x*9");
        due("zeros", x.zeros(0), 2);
        due("zero(0, 0)", x.zero(0, 0), 2);
        due("zero(0, 1)", x.zero(0, 1), 18);
        due("zero(1, 0)", x.zero(1, 0), 17);
        due("zero(1, 1)", x.zero(1, 1), 1);
        due("zero(2, 0)", x.zero(2, 0), NONE);
        refused("zeros(4)", 1, () -> x.zeros(4));
        x.field(32003, 4, 0);
        refused("too many points", 3, () -> x.zeros(0));
        due("a refused zeros() is not the latest", x.zero(1, 0), 17);
        due("a variable beyond the 2 there were", x.zero(1, 2), NONE);
    }

    public static void main(String[] args) {
        newObject();
        field();
        feed();
        end();
        read();
        fault();
        add();
        multiply();
        derive();
        put();
        about();
        term();
        print();
        output();
        clear();
        join();
        both();
        basis();
        element();
        ideal();
        standard();
        remainder();
        proved();
        radical();
        dictionary();
        entry();
        zeros();
        zero();
        finish("all promises are kept");
    }
}
