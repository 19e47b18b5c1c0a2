/** Promises 6 to 11: fails, excluded, failing, shortfall, value and matters. */
public final class TrajectoryTest {
    private static final int NONE = TrajectoryRails.NONE;
    private static final int REFUSED = TrajectoryRails.REFUSED;

    public static void main(String[] args) {
        threeValues();
        constants();
        strengthOfSigns();
        latches();
        orderOfWires();
        chainOfForty();
        manyClauses();
        givens();
        exclusion();
        failing();
        shortfalls();
        values();
        mattersOrNot();
        manyVariables();
        Rig.finish();
    }

    /** Both inputs over 0, 1 and X; the three tables as the document words them. */
    private static void threeValues() {
        String circuit = "input a, b; wire no = !a; wire and = a & b; wire or = a | b; wire xor = a ^ b;";
        // KA tells whether a is known, A what it is then; likewise b.
        TrajectoryRails x = Rig.with(circuit, "given a is A if KA, b is B if KB then a is A if KA.");
        String[] order = {"A", "KA", "B", "KB"};
        for (int n = 0; n < 16; n++) {
            int a = (n >> 2 & 1) == 1 ? n >> 3 & 1 : 2;
            int b = (n & 1) == 1 ? n >> 1 & 1 : 2;
            Rig.due("a " + n, x.value(0, 0, n), a);
            Rig.due("b " + n, x.value(1, 0, n), b);
            Rig.due("!a " + n, x.value(2, 0, n), a == 2 ? 2 : 1 - a);
            Rig.due("a&b " + n, x.value(3, 0, n), a == 0 || b == 0 ? 0 : a == 1 && b == 1 ? 1 : 2);
            Rig.due("a|b " + n, x.value(4, 0, n), a == 1 || b == 1 ? 1 : a == 0 && b == 0 ? 0 : 2);
            Rig.due("a^b " + n, x.value(5, 0, n), a == 2 || b == 2 ? 2 : a == b ? 0 : 1);
        }
        Rig.due("variables " + order.length, x.count(4), order.length);
        TrajectoryRails y = Rig.with("input a; wire b = a ^ a; wire c = a & !a; wire d = a | 1; wire e = a & 0;",
                "given d is 1 then d is 1, e is 0.");
        Rig.due("a ^ a of X", y.value(1, 0, 0), 2);
        Rig.due("a & !a of X", y.value(2, 0, 0), 2);
        Rig.due("a | 1 of X", y.value(3, 0, 0), 1);
        Rig.due("a & 0 of X", y.value(4, 0, 0), 0);
        Rig.due("nothing fails", y.fails(), 0);
    }

    private static void constants() {
        TrajectoryRails x = Rig.with("input a; wire one = 1; wire zero = 0; latch l = !1; latch k = !0;",
                "given a is A^B^C^D^E^F^G then one is 1 at 0 to 1, zero is 0 at 0 to 1, l is 0 at 1, k is 1 at 1.");
        Rig.due("excluded", x.excluded(), 0);
        Rig.due("fails", x.fails(), 0);
        for (int n = 0; n < 128; n++) {
            Rig.due("one of " + n, x.value(1, 0, n), 1);
            Rig.due("zero of " + n, x.value(2, 1, n), 0);
        }
        Rig.assertion(x, "given one is A then zero is 0.");
        Rig.due("given otherwise", x.value(1, 0, 0), 3);
        Rig.due("given the same", x.value(1, 0, 1), 1);
    }

    private static void strengthOfSigns() {
        String circuit = "input a, b, c; wire p = a | b & c; wire q = a ^ b & c; wire r = a | b ^ c;"
                + " wire s = !a & b; wire t = !(a & b); wire u = (a | b) & c; wire v = a & b | c ^ a;";
        TrajectoryRails x = Rig.with(circuit, "given a is A, b is B, c is C then a is A | B & C, "
                + "b is !A & B, c is C & (A | !A).");
        for (int n = 0; n < 8; n++) {
            int a = n >> 2;
            int b = n >> 1 & 1;
            int c = n & 1;
            int[] want = {a | (b & c), a ^ (b & c), a | (b ^ c), (1 - a) & b, 1 - (a & b), (a | b) & c,
                (a & b) | (c ^ a)};
            for (int i = 0; i < want.length; i++) {
                Rig.due("wire " + i + " of " + n, x.value(3 + i, 0, n), want[i]);
            }
            boolean wrong = (a | (b & c)) != a || ((1 - a) & b) != b;
            Rig.due("as BOOL, of " + n, x.shortfall(n, 0) == NONE ? 0 : 1, wrong ? 1 : 0);
        }
    }

    private static void latches() {
        TrajectoryRails x = Rig.with("input d; latch q = d; latch r = q; latch one = 1; latch t = !t;",
                "given d is A, d is B at 2, t is 0 at 1 then q is A at 1, r is A at 2, q is B at 3, r is B at 4.");
        Rig.due("fails", x.fails(), 0);
        int[][] wantOf2 = {{1, 2, 0, 2, 2}, {2, 1, 2, 0, 2}, {2, 2, 1, 2, 0}, {2, 1, 1, 1, 1}, {2, 0, 1, 0, 1}};
        for (int node = 0; node < 5; node++) {
            for (int time = 0; time < 5; time++) {
                Rig.due("node " + node + " at " + time, x.value(node, time, 2), wantOf2[node][time]);
            }
        }
    }

    private static void orderOfWires() {
        TrajectoryRails x = Rig.with("wire a = b & c; wire b = c | d; wire c = !d; latch l = a; wire e = l ^ a; input d;",
                "given d is 0 at 0 to 1 then a is 1, b is 1, c is 1, l is 1 at 1, e is 0 at 1.");
        Rig.due("wires that are declared too early", x.fails(), 0);
        TrajectoryRails y = Rig.with("wire a = b; wire b = c; input c;",
                "given b is V then a is V, b is V.");
        Rig.due("what is given for a wire goes on", y.fails(), 0);
        Rig.due("not back", y.value(2, 0, 1), 2);
    }

    private static void chainOfForty() {
        StringBuilder text = new StringBuilder();
        for (int i = 0; i < 39; i++) {
            text.append("wire n").append(i).append("=!n").append(i + 1).append(';');
        }
        TrajectoryRails x = Rig.with(text + "wire n39=0;", "given n39 is 0 then n0 is 1, n38 is 1, n1 is 0.");
        Rig.due("forty wires, the last one first", x.fails(), 0);
        for (int i = 0; i < 40; i++) {
            Rig.due("wire " + i, x.value(i, 0, 0), (39 - i) % 2);
        }
        StringBuilder forward = new StringBuilder("wire n0=1;");
        for (int i = 1; i < 40; i++) {
            forward.append("wire n").append(i).append("=n").append(i - 1).append(';');
        }
        TrajectoryRails y = Rig.with(forward.toString(), "given n0 is A then n39 is 1 at 11.");
        Rig.due("forty wires, the first one first", y.fails(), 0);
        for (int i = 0; i < 40; i++) {
            Rig.due("wire " + i + " at 11", y.value(i, 11, 1), 1);
        }
    }

    /** Each clause by its own words alone, however many stand before it. */
    private static void manyClauses() {
        StringBuilder text = new StringBuilder("given a is P");
        for (int i = 0; i < 23; i++) {
            text.append(",b is P&Q|R if R^Q at ").append(i % 12);
        }
        text.append(" then a is P");
        for (int i = 0; i < 23; i++) {
            text.append(",b is ").append(i == 22 ? "!R" : "P&Q|R").append(" if R^Q at ").append(i % 12);
        }
        TrajectoryRails x = Rig.with("input a, b;", text + ".");
        int[] want = {NONE, 23, 23, NONE, NONE, 23, NONE, NONE};
        for (int n = 0; n < want.length; n++) {
            Rig.due("clause of " + n, x.shortfall(n, 0), want[n]);
            Rig.due("time of " + n, x.shortfall(n, 1), want[n] == NONE ? NONE : 10);
        }
    }

    private static void givens() {
        TrajectoryRails x = Rig.with("input a, b; wire c = a & b; latch q = c;",
                "given a is 1 if S at 1 to 2, c is V if !S, q is 0 at 2 then a is 1 at 1.");
        Rig.due("before its times", x.value(0, 0, 2), 2);
        Rig.due("at the first", x.value(0, 1, 2), 1);
        Rig.due("at the last", x.value(0, 2, 2), 1);
        Rig.due("if is 0", x.value(0, 1, 1), 2);
        Rig.due("a wire that is not known", x.value(2, 0, 1), 1);
        Rig.due("at its own time alone", x.value(2, 1, 1), 2);
        Rig.due("the latch takes it", x.value(3, 1, 1), 1);
        Rig.due("and the other one", x.value(3, 1, 0), 0);
        Rig.due("a latch that is not known", x.value(3, 2, 3), 0);
        Rig.due("excluded", x.excluded(), 0);
        Rig.due("fails", x.fails(), 2);
    }

    private static void exclusion() {
        TrajectoryRails x = Rig.with("input a, b; wire c = a & b; latch q = c;",
                "given a is A, b is 1, c is B then a is A.");
        Rig.due("a wire that has another", x.excluded(), 2);
        Rig.due("0: they agree", x.value(2, 0, 0), 0);
        Rig.due("1: they do not", x.value(2, 0, 1), 3);
        Rig.due("1: nor anywhere", x.value(1, 0, 1), 3);
        Rig.due("none fails", x.fails(), 0);

        Rig.assertion(x, "given c is A, q is B at 1, a is 1 at 3 then b is 0 at 2.");
        Rig.due("a latch that has another", x.excluded(), 2);
        Rig.due("the others fail", x.fails(), 2);
        Rig.due("first", x.failing(0), 0);
        Rig.due("second", x.failing(1), 3);
        Rig.due("third", x.failing(2), NONE);
        Rig.due("3 at every time", x.value(0, 0, 1), 3);
        Rig.due("3 at the last", x.value(0, 3, 1), 3);
        Rig.due("not behind it", x.value(0, 4, 1), NONE);
        Rig.due("no shortfall", x.shortfall(1, 0), NONE);

        Rig.assertion(x, "given a is A if S, a is B if T then a is A.");
        Rig.due("two that differ, both if 1", x.excluded(), 2);
        Rig.assertion(x, "given a is 1, a is 1, a is 1 then a is 1.");
        Rig.due("two that agree", x.excluded(), 0);
        Rig.assertion(x, "given a is 1 at 11, a is 0 at 0 to 11 then b is 1.");
        Rig.due("at the last time", x.excluded(), 1);
        Rig.due("no one fails", x.fails(), 0);
        Rig.assertion(x, "given a is 1 at 5, a is 0 at 6 then a is 1 at 5.");
        Rig.due("at other times", x.excluded(), 0);
        Rig.due("and it holds", x.fails(), 0);
        Rig.due("without a circuit", new TrajectoryRails().excluded(), REFUSED);
        Rig.circuit(x, "input a;");
        Rig.due("excluded without an assertion", x.excluded(), REFUSED);
        Rig.due("fails without an assertion", x.fails(), REFUSED);
    }

    private static void failing() {
        TrajectoryRails x = Rig.with("input a, b;", "given a is A & B & C then a is A, b is 0 if !A & B & C.");
        int[] want = {3, 4, 5, 6};
        Rig.due("fails", x.fails(), want.length);
        for (int k = 0; k < want.length; k++) {
            Rig.due("failing " + k, x.failing(k), want[k]);
        }
        Rig.due("failing 4", x.failing(4), NONE);
        Rig.due("failing -1", x.failing(-1), NONE);
        Rig.due("failing least", x.failing(Integer.MIN_VALUE), NONE);
        Rig.due("failing greatest", x.failing(Integer.MAX_VALUE), NONE);
        Rig.assertion(x, "given a is 1 then b is 1.");
        Rig.due("X is none that is said", x.fails(), 1);
        Rig.due("without variables", x.failing(0), 0);
        Rig.assertion(x, "given a is 1 then b is 1 if 0.");
        Rig.due("if 0 asks nothing", x.fails(), 0);
        Rig.assertion(x, "given a is 1 then a is B.");
        Rig.due("0 for 1", x.failing(0), 0);
        Rig.due("alone", x.fails(), 1);
    }

    private static void shortfalls() {
        TrajectoryRails x = Rig.with("input a, b; latch q = a;",
                "given a is A at 0 to 3, b is B at 2 to 5 then a is A, q is A if B at 1 to 6, b is B at 1 to 9, a is 0 at 3.");
        Rig.due("0: clause", x.shortfall(0, 0), 2);
        Rig.due("0: time", x.shortfall(0, 1), 1);
        Rig.due("1: clause", x.shortfall(1, 0), 1);
        Rig.due("1: time", x.shortfall(1, 1), 5);
        Rig.due("no such assignment", x.shortfall(4, 0), NONE);
        Rig.due("nor this", x.shortfall(-1, 1), NONE);
        Rig.due("nor the greatest", x.shortfall(Integer.MAX_VALUE, 1), NONE);
        Rig.due("nor the least", x.shortfall(Integer.MIN_VALUE, 0), NONE);
        Rig.due("another what", x.shortfall(0, 2), REFUSED);
        Rig.due("another what, below", x.shortfall(0, -1), REFUSED);
        Rig.due("another what comes first", x.shortfall(99, 7), REFUSED);
        Rig.assertion(x, "given a is A then a is 1, b is 0 if !A at 2 to 4.");
        Rig.due("one that does not fail", x.shortfall(1, 0), NONE);
        Rig.due("nor has a time", x.shortfall(1, 1), NONE);
        Rig.due("one that does", x.shortfall(0, 0), 0);
        Rig.due("at 0", x.shortfall(0, 1), 0);
        Rig.circuit(x, "input a;");
        Rig.due("no assertion", x.shortfall(0, 0), NONE);
        Rig.due("no assertion, another what", x.shortfall(0, 3), REFUSED);
    }

    private static void values() {
        TrajectoryRails x = Rig.with("input a, b;", "given a is A at 0 to 2 then a is A.");
        Rig.due("0", x.value(0, 2, 0), 0);
        Rig.due("1", x.value(0, 2, 1), 1);
        Rig.due("X", x.value(1, 2, 1), 2);
        int[] none = {-1, Integer.MIN_VALUE, Integer.MAX_VALUE};
        for (int n : none) {
            Rig.due("node " + n, x.value(n, 0, 0), NONE);
            Rig.due("time " + n, x.value(0, n, 0), NONE);
            Rig.due("assignment " + n, x.value(0, 0, n), NONE);
        }
        Rig.due("node 2", x.value(2, 0, 0), NONE);
        Rig.due("time 3", x.value(0, 3, 0), NONE);
        Rig.due("assignment 2", x.value(0, 0, 2), NONE);
        Rig.assertion(x, "given a is 1 at 11 then a is 1 at 11.");
        Rig.due("at 11", x.value(0, 11, 0), 1);
        Rig.due("before", x.value(0, 10, 0), 2);
        Rig.due("one assignment", x.value(0, 0, 1), NONE);
        Rig.circuit(x, "input a;");
        Rig.due("no assertion", x.value(0, 0, 0), NONE);
    }

    private static void mattersOrNot() {
        TrajectoryRails x = Rig.with("input a, b; wire c = a & b; latch q = c;",
                "given a is A, b is B if K then q is 0 at 1.");
        Rig.due("a by A", x.matters(0, 0, 0), 1);
        Rig.due("a by B", x.matters(0, 0, 1), 0);
        Rig.due("b by A", x.matters(1, 0, 0), 0);
        Rig.due("b by B", x.matters(1, 0, 1), 1);
        Rig.due("b by K, from X", x.matters(1, 0, 2), 1);
        Rig.due("c by all", x.matters(2, 0, 0) + x.matters(2, 0, 1) + x.matters(2, 0, 2), 3);
        Rig.due("q not yet", x.matters(3, 0, 0), 0);
        Rig.due("q then", x.matters(3, 1, 0), 1);
        Rig.due("a no more", x.matters(0, 1, 0), 0);
        int[] none = {-1, Integer.MIN_VALUE, Integer.MAX_VALUE};
        for (int n : none) {
            Rig.due("node " + n, x.matters(n, 0, 0), NONE);
            Rig.due("time " + n, x.matters(0, n, 0), NONE);
            Rig.due("variable " + n, x.matters(0, 0, n), NONE);
        }
        Rig.due("node 4", x.matters(4, 0, 0), NONE);
        Rig.due("time 2", x.matters(0, 2, 0), NONE);
        Rig.due("variable 3", x.matters(0, 0, 3), NONE);
        Rig.assertion(x, "given a is 1 if K, b is 0 if K then c is 0.");
        Rig.due("X or 1", x.matters(0, 0, 0), 1);
        Rig.due("X or 0", x.matters(1, 0, 0), 1);
        Rig.assertion(x, "given a is A, a is B then c is 0.");
        Rig.due("the other one is excluded", x.matters(0, 0, 0) + x.matters(0, 0, 1), 0);
        Rig.assertion(x, "given a is 1 then c is 0.");
        Rig.due("no variables", x.matters(0, 0, 0), NONE);
        Rig.circuit(x, "input a;");
        Rig.due("no assertion", x.matters(0, 0, 0), NONE);
    }

    private static void manyVariables() {
        String[] letters = {"A", "B", "C", "D", "E", "F", "G", "H", "I"};
        for (int v = 1; v <= 9; v++) {
            String xor = String.join("^", java.util.Arrays.copyOf(letters, v));
            String and = String.join("&", java.util.Arrays.copyOf(letters, v));
            TrajectoryRails x = Rig.with("input a, b, c;",
                    "given a is " + xor + ", b is " + and + ", c is A, c is 1 if " + and + " then a is 0, b is 1 if " + letters[v - 1] + ".");
            int fails = 0;
            for (int n = 0; n < 1 << v; n++) {
                int a = Integer.bitCount(n) & 1;
                int b = n == (1 << v) - 1 ? 1 : 0;
                boolean wrong = a == 1 || (n & 1) == 1 && b == 0;
                Rig.due(v + " a " + n, x.value(0, 0, n), a);
                Rig.due(v + " b " + n, x.value(1, 0, n), b);
                Rig.due(v + " c " + n, x.value(2, 0, n), n >> v - 1);
                Rig.due(v + " shortfall " + n, x.shortfall(n, 0), !wrong ? NONE : a == 1 ? 0 : 1);
                if (wrong) {
                    Rig.due(v + " failing " + fails, x.failing(fails), n);
                    fails++;
                }
            }
            Rig.due(v + " fails", x.fails(), fails);
            Rig.due(v + " failing none", x.failing(fails), NONE);
            Rig.due(v + " no more assignments", x.value(0, 0, 1 << v), NONE);
            for (int k = 0; k < v; k++) {
                Rig.due(v + " a by " + k, x.matters(0, 0, k), 1);
                Rig.due(v + " b by " + k, x.matters(1, 0, k), 1);
                Rig.due(v + " c by " + k, x.matters(2, 0, k), k == 0 ? 1 : 0);
            }
            Rig.assertion(x, "given a is " + xor + ", a is 0 then c is 0.");
            Rig.due(v + " excluded", x.excluded(), 1 << v - 1);
            Rig.due(v + " fails then", x.fails(), 1 << v - 1);
            Rig.due(v + " matters no more", x.matters(0, 0, v - 1), 0);
        }
    }
}
