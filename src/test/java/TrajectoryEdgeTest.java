/** The bounds in the document's words on values, assignments and trajectories; above each test its sentence. */
public final class TrajectoryEdgeTest {
    private static final int NONE = TrajectoryRails.NONE;
    private static final int X = 2, OUT = 3;

    public static void main(String[] args) {
        tableOfNot();
        tablesOfTwo();
        deepestFormula();
        longestFormula();
        noVariables();
        variable0IsTheHighest();
        eachNumberOfVariables();
        lastIsTheGreatestTime();
        inputsAreNotKnown();
        wiresOfThisTime();
        latchesAtTime0();
        latchesOfTheTimeBefore();
        wiresBehindWhatTheyAreMadeOf();
        givenInPlaceOfX();
        givenGoesOn();
        givenIfItsIfIs1();
        anotherThanTheNodeHas();
        anotherThanTheNodeHasByWhatIsGiven();
        twoThatDiffer();
        twoThatAgree();
        excludedAtOneTimeAtAll();
        failsIfNotExcluded();
        xIsNoneThatIsSaid();
        failsIfItsIfIs1();
        failsAtAnyOfItsTimes();
        Rig.finish();
    }

    private static void values(TrajectoryRails x, int node, int assignment, int... want) {
        for (int time = 0; time < want.length; time++) {
            Rig.due("node " + node + " at " + time + " of " + assignment, x.value(node, time, assignment), want[time]);
        }
        Rig.due("node " + node + " at no more times", x.value(node, want.length, assignment), NONE);
    }

    // "! turns 0 and 1" (and X stays)
    private static void tableOfNot() {
        TrajectoryRails x = Rig.with("input p, q; wire a = !0; wire b = !1; wire c = !p; wire d = !!p; wire e = !q;",
                "given q is Q then q is Q.");
        int[] want = {X, 0, 1, 0, X, X, 1};
        for (int node = 0; node < want.length; node++) {
            Rig.due("node " + node, x.value(node, 0, 0), want[node]);
        }
        Rig.due("!1", x.value(6, 0, 1), 0);
    }

    // "& is 0 if one is, 1 if both are, else X; | 1 if one is, 0 if both are, else X; ^ X if one is,
    // else whether they differ"
    private static void tablesOfTwo() {
        String[] leaves = {"0", "1", "x"};
        int[][] and = {{0, 0, 0}, {0, 1, X}, {0, X, X}};
        int[][] or = {{0, 1, X}, {1, 1, 1}, {X, 1, X}};
        int[][] xor = {{0, 1, X}, {1, 0, X}, {X, X, X}};
        for (int a = 0; a < 3; a++) {
            for (int b = 0; b < 3; b++) {
                String left = leaves[a];
                String right = leaves[b];
                TrajectoryRails x = Rig.with("input x; wire a = " + left + " & " + right + "; wire b = " + left + " | "
                        + right + "; wire c = " + left + " ^ " + right + ";", "given x is 1 if 0 then x is 0.");
                Rig.due(left + " & " + right, x.value(1, 0, 0), and[a][b]);
                Rig.due(left + " | " + right, x.value(2, 0, 0), or[a][b]);
                Rig.due(left + " ^ " + right, x.value(3, 0, 0), xor[a][b]);
            }
        }
    }

    // "at most 10 deep": the value of what is as deep as can be, with an operator of each kind waiting
    // under each bracket, in a circuit and in a BOOL
    private static void deepestFormula() {
        String expr = "a|b^c&(".repeat(10) + "a|b^c&d" + ")".repeat(10);
        String nots = "(a|!".repeat(5) + "d" + ")".repeat(5);
        TrajectoryRails x = Rig.with("input a, b, c, d; wire w = " + expr + "; wire n = " + nots + ";",
                "given a is A, b is B, c is C, d is D then w is " + expr.toUpperCase() + ", n is " + nots.toUpperCase() + ".");
        for (int n = 0; n < 16; n++) {
            int a = n >> 3;
            int deep = n & 1;
            int turned = n & 1;
            for (int i = 0; i <= 10; i++) {
                deep = a | ((n >> 2 & 1) ^ ((n >> 1 & 1) & deep));
            }
            for (int i = 0; i < 5; i++) {
                turned = a | (1 - turned);
            }
            Rig.due("the deepest of " + n, x.value(4, 0, n), deep);
            Rig.due("the deepest of ! and brackets of " + n, x.value(5, 0, n), turned);
        }
        Rig.due("a BOOL says the same", x.fails(), 0);
        Rig.assertionDue(x, "given a is A, b is B, c is C, d is D then w is !(" + expr.substring(14, expr.length() - 2).toUpperCase() + ").");
        Rig.due("and not another", x.fails() > 0 ? 1 : 0, 1);
    }

    // "at most 300 ATOMS": each of them is looked at.
    private static void longestFormula() {
        TrajectoryRails x = Rig.with("input a; wire odd = " + "a^".repeat(298) + "a;");
        Rig.assertionDue(x, "given a is A then odd is A.");
        Rig.due("299 of a circuit", x.fails(), 0);
        Rig.circuitDue(x, "input a; wire even = " + "a^".repeat(299) + "a;");
        Rig.assertionDue(x, "given a is A then even is 0.");
        Rig.due("300 of a circuit", x.fails(), 0);
        Rig.assertionDue(x, "given a is " + "1^".repeat(297) + "A then even is 0, a is !A.");
        Rig.due("298 of a BOOL", x.fails(), 0);
        Rig.assertionDue(x, "given a is " + "1^".repeat(298) + "A then even is 0.");
        Rig.due("299 of a BOOL", x.matters(0, 0, 0) * 10 + x.value(0, 0, 1), 11);
        // As many signs as 2000 bytes can hold: 281 times !a.
        Rig.circuitDue(x, "input a;wire w=" + "!!!!!a^".repeat(280) + "!a;");
        Rig.assertionDue(x, "given a is A then w is !A.");
        Rig.due("many !", x.fails(), 0);
        Rig.assertionDue(x, "given a is " + "!!!!!A^".repeat(276) + "!A then w is A.");
        Rig.due("many ! of a BOOL", x.fails(), 0);
    }

    // "An ASSIGNMENT gives each of the V variables 0 or 1": of none there is one, its number 0.
    private static void noVariables() {
        TrajectoryRails x = Rig.with("input a;", "given a is 1 then a is 0.");
        Rig.due("it fails", x.fails(), 1);
        Rig.due("its number", x.failing(0), 0);
        Rig.due("no other", x.failing(1), NONE);
        Rig.due("its value", x.value(0, 0, 0), 1);
        Rig.due("no assignment 1", x.value(0, 0, 1), NONE);
        Rig.due("nor shortfall of it", x.shortfall(1, 0), NONE);
        Rig.due("no variable", x.matters(0, 0, 0), NONE);
        Rig.assertionDue(x, "given a is 1, a is 0 then a is 0.");
        Rig.due("it is excluded", x.excluded(), 1);
        Rig.due("and does not fail", x.fails(), 0);
    }

    // "its NUMBER has V bits, variable 0 the highest"
    private static void variable0IsTheHighest() {
        TrajectoryRails x = Rig.with("input a, b, c;", "given a is A, b is B, c is C then a is A.");
        for (int n = 0; n < 8; n++) {
            Rig.due("A of " + n, x.value(0, 0, n), n >> 2);
            Rig.due("B of " + n, x.value(1, 0, n), n >> 1 & 1);
            Rig.due("C of " + n, x.value(2, 0, n), n & 1);
        }
    }

    // The same for each V up to 9: every one of its assignments, and none behind the last.
    private static void eachNumberOfVariables() {
        StringBuilder givens = new StringBuilder("n0 is A");
        for (int v = 1; v <= 9; v++) {
            TrajectoryRails x = Rig.with("input n0, n1, n2, n3, n4, n5, n6, n7, n8;", "given " + givens + " then n0 is 1 if 0.");
            for (int n = 0; n < 1 << v; n++) {
                for (int node = 0; node < 9; node++) {
                    int want = node < v ? n >> v - 1 - node & 1 : X;
                    Rig.due(v + " variables, node " + node + " of " + n, x.value(node, 0, n), want);
                }
            }
            Rig.due(v + " variables, none behind the last", x.value(0, 0, 1 << v), NONE);
            Rig.due(v + " variables, none before the first", x.value(0, 0, -1), NONE);
            Rig.due(v + " variables, none excluded", x.excluded(), 0);
            Rig.due(v + " variables, none fails", x.fails(), 0);
            for (int node = 0; node < 9; node++) {
                for (int other = 0; other < v; other++) {
                    Rig.due("matters", x.matters(node, 0, other), node == other ? 1 : 0);
                }
            }
            givens.append(",n").append(v).append(" is ").append((char) ('A' + v));
        }
    }

    // "at the times 0, 1, .. to the greatest one of the assertion (the LAST)"
    private static void lastIsTheGreatestTime() {
        String[] claims = {"given a is 1 at 7 then a is 1.", "given a is 1 then a is 1 at 7.",
            "given a is 1 at 3 to 7 then a is 1 at 6.", "given a is 1 if 0 at 7 then a is 1 if 0.",
            "given a is 1 at 2 then a is 1 if 0 at 2 to 7.", "given a is 1 at 7, a is 1 at 3 then a is 1 at 1, a is 0 at 2."};
        for (String claim : claims) {
            TrajectoryRails x = Rig.with("input a;", claim);
            Rig.due("the last of " + claim, x.count(7), 7);
            Rig.due("a value there", x.value(0, 7, 0) == NONE ? 0 : 1, 1);
            Rig.due("none behind", x.value(0, 8, 0), NONE);
        }
        TrajectoryRails x = Rig.with("input a; latch l = !l;", "given l is 0 then l is 1 at 11.");
        values(x, 1, 0, 0, 1, 0, 1, 0, 1, 0, 1, 0, 1, 0, 1);
    }

    // "an input X"
    private static void inputsAreNotKnown() {
        TrajectoryRails x = Rig.with("input a, b;", "given a is 1 at 1 then b is 1 at 2.");
        values(x, 0, 0, X, 1, X);
        values(x, 1, 0, X, X, X);
    }

    // "a wire that of its EXPR at this time"
    private static void wiresOfThisTime() {
        TrajectoryRails x = Rig.with("input a; wire w = !a;", "given a is 1 at 1, a is 0 at 3 then w is 1 at 4.");
        values(x, 1, 0, X, 0, X, 1, X);
    }

    // "a latch X at time 0"
    private static void latchesAtTime0() {
        TrajectoryRails x = Rig.with("input a; latch one = 1; latch q = a;", "given a is 1 then a is 1.");
        values(x, 1, 0, X);
        values(x, 2, 0, X);
        Rig.assertionDue(x, "given one is 0 then one is 1 at 1.");
        Rig.due("what is given at time 0 excludes none", x.excluded(), 0);
        values(x, 1, 0, 0, 1);
    }

    // "then that of its EXPR at the time before"
    private static void latchesOfTheTimeBefore() {
        TrajectoryRails x = Rig.with("input a; latch p = a; latch q = p; latch r = !q; wire w = q; latch s = w;",
                "given a is 1, a is 0 at 2 then a is 1 at 5.");
        values(x, 1, 0, X, 1, X, 0, X, X);
        values(x, 2, 0, X, X, 1, X, 0, X);
        values(x, 3, 0, X, X, X, 0, X, 1);
        values(x, 5, 0, X, X, X, 1, X, 0);
        // Declared before what it is made of, it still takes the time before.
        x = Rig.with("latch q = p; latch p = a; input a;", "given a is 1 then q is 1 at 2.");
        values(x, 0, 0, X, X, 1);
        values(x, 1, 0, X, 1, X);
        x = Rig.with("latch q = p; latch p = q;", "given q is 0, p is 1 then q is 1 at 2.");
        values(x, 0, 0, 0, 1, 0);
        values(x, 1, 0, 1, 0, 1);
    }

    // "each node, wires behind what they are made of"
    private static void wiresBehindWhatTheyAreMadeOf() {
        TrajectoryRails x = Rig.with("wire a = b; wire b = !c; wire c = d & e; input d; latch e = a; wire f = a ^ b;",
                "given d is 1 at 0 to 1, e is 1 then a is 1 at 1.");
        values(x, 0, 0, 0, 1);
        values(x, 4, 0, 1, 0);
        values(x, 5, 0, 0, 0);
        // Names do not tell the order, nor how many a wire is made of.
        x = Rig.with("wire z = a; wire y = z & q & r & s; wire a = b; wire b = q; input q, r, s; wire c = y;",
                "given q is 1, r is 1, s is 1 then c is 1.");
        Rig.due("none fails", x.fails(), 0);
        // Forty wires, each made of the one that is declared next.
        StringBuilder text = new StringBuilder();
        for (int n = 0; n < 39; n++) {
            text.append("wire n").append(n).append("=!n").append(n + 1).append(';');
        }
        x = Rig.with(text + "wire n39=1;", "given n39 is 1 then n0 is 0.");
        for (int n = 0; n < 40; n++) {
            Rig.due("of forty wires " + n, x.value(n, 0, 0), n % 2);
        }
    }

    // "if a clause that is given for it and this time .. says 0 or 1 (of its is) X becomes that"
    private static void givenInPlaceOfX() {
        TrajectoryRails x = Rig.with("input a, b; wire w = a & b; latch l = a;",
                "given a is A at 1, w is !A at 1 to 2, l is A ^ 1 then a is 1 if 0 at 3.");
        values(x, 0, 1, X, 1, X, X);
        values(x, 2, 1, X, 0, 0, X);
        values(x, 3, 1, 0, X, 1, X);
        Rig.due("the wire is 0 by a, and 1 is given", x.value(2, 1, 0), OUT);
    }

    // The node has it then, for what is made of it at this time and at the next.
    private static void givenGoesOn() {
        TrajectoryRails x = Rig.with("input a; wire w = a; wire v = !w; latch l = v;", "given w is 1 at 1 then l is 0 at 2.");
        values(x, 0, 0, X, X, X);
        values(x, 1, 0, X, 1, X);
        values(x, 2, 0, X, 0, X);
        values(x, 3, 0, X, X, 0);
        Rig.due("none fails", x.fails(), 0);
    }

    // "(and if it has one, its if is 1)"
    private static void givenIfItsIfIs1() {
        TrajectoryRails x = Rig.with("input a, b, c;", "given a is 1 if A, b is 0 if !A, c is 1 if 1, c is 0 if 0 then a is 1 if A.");
        values(x, 0, 0, X);
        values(x, 0, 1, 1);
        values(x, 1, 0, 0);
        values(x, 1, 1, X);
        values(x, 2, 0, 1);
        Rig.due("none is excluded", x.excluded(), 0);
    }

    // "if it says another one than the node has .. the assignment is EXCLUDED"
    private static void anotherThanTheNodeHas() {
        TrajectoryRails x = Rig.with("wire one = 1; wire zero = 0; latch k = 1; latch l = 0;", "given one is A then one is 1.");
        Rig.due("a wire of 1", x.value(0, 0, 0) * 10 + x.value(0, 0, 1), 31);
        Rig.assertionDue(x, "given zero is A then one is 1.");
        Rig.due("a wire of 0", x.value(1, 0, 0) * 10 + x.value(1, 0, 1), 3);
        Rig.assertionDue(x, "given k is A at 1 then one is 1.");
        Rig.due("a latch of 1", x.value(2, 1, 0) * 10 + x.value(2, 1, 1), 31);
        Rig.assertionDue(x, "given l is A at 1 then one is 1.");
        Rig.due("a latch of 0", x.value(3, 1, 0) * 10 + x.value(3, 1, 1), 3);
        Rig.due("one is excluded", x.excluded(), 1);
    }

    // The node has what it is made of, and that may be given too.
    private static void anotherThanTheNodeHasByWhatIsGiven() {
        TrajectoryRails x = Rig.with("input a; wire w = a; latch l = w; wire v = l;", "given a is A, v is B at 1 then a is A.");
        Rig.due("by way of three", x.excluded(), 2);
        Rig.due("A and B agree", x.value(3, 1, 3), 1);
        Rig.due("they do not", x.value(3, 1, 1), OUT);
        Rig.assertionDue(x, "given a is A, v is B at 0 then a is A.");
        Rig.due("not before the latch has it", x.excluded(), 0);
    }

    // "or two do": two that are given say different ones, though the node had X
    private static void twoThatDiffer() {
        TrajectoryRails x = Rig.with("input a; latch l = a;", "given a is A, a is B then a is A.");
        Rig.due("on an input", x.excluded(), 2);
        Rig.assertionDue(x, "given l is 1, l is 0 then a is 1.");
        Rig.due("on a latch", x.excluded(), 1);
        Rig.assertionDue(x, "given a is 1 at 0 to 3, a is 0 at 3 to 5 then a is 1.");
        Rig.due("where their times meet", x.excluded(), 1);
        Rig.assertionDue(x, "given a is 1 at 0 to 3, a is 0 at 4 to 5 then a is 1.");
        Rig.due("where they do not", x.excluded(), 0);
        Rig.assertionDue(x, "given a is 1 if A, a is 0 if B then l is 1 if 0 at 1.");
        Rig.due("only if both ifs are 1", x.excluded(), 1);
        Rig.due("which is 3", x.value(0, 0, 3), OUT);
    }

    // "another one", "two do": the same one said twice, or said of a node that has it, excludes none.
    private static void twoThatAgree() {
        TrajectoryRails x = Rig.with("input a; wire w = 1; latch l = a;", "given a is 0, a is 0, w is 1, l is 0 at 1 then a is 0.");
        Rig.due("none is excluded", x.excluded(), 0);
        values(x, 0, 0, 0, X);
        values(x, 1, 0, 1, 1);
        values(x, 2, 0, X, 0);
    }

    // "the assignment is EXCLUDED": whatever the time, the first, one between, or the last
    private static void excludedAtOneTimeAtAll() {
        for (int time = 0; time <= 11; time++) {
            TrajectoryRails x = Rig.with("input a, b; wire w = 1;", "given w is A at " + time + ", b is 1 at 11 then b is 0 at 11.");
            Rig.due("excluded at " + time, x.excluded(), 1);
            Rig.due("the other one fails", x.failing(0), 1);
            for (int t = 0; t <= 11; t++) {
                Rig.due("value at " + t, x.value(0, t, 0), OUT);
                Rig.due("value of w at " + t, x.value(2, t, 0), OUT);
                Rig.due("value of the other", x.value(0, t, 1), X);
            }
            Rig.due("not behind the last", x.value(0, 12, 0), NONE);
        }
    }

    // "It FAILS if it is not excluded"
    private static void failsIfNotExcluded() {
        TrajectoryRails x = Rig.with("input a, b;", "given a is 1, a is A, b is 0 then b is 1.");
        Rig.due("fails", x.fails(), 1);
        Rig.due("excluded", x.excluded(), 1);
        Rig.due("the one that is not", x.failing(0), 1);
        Rig.due("of the one that is", x.shortfall(0, 0), NONE);
        Rig.assertionDue(x, "given a is 1, a is 0 then b is 1.");
        Rig.due("all are excluded", x.fails(), 0);
    }

    // "(X is none that is said)"
    private static void xIsNoneThatIsSaid() {
        TrajectoryRails x = Rig.with("input a; latch l = a;", "given a is 1 then l is 0, l is 1.");
        Rig.due("fails", x.fails(), 1);
        Rig.assertionDue(x, "given a is 1 then l is A.");
        Rig.due("for 0 and for 1", x.fails(), 2);
        Rig.assertionDue(x, "given a is A then a is A at 1.");
        Rig.due("at a time when it is not known", x.fails(), 2);
    }

    // "whose if, if it has one, is 1"
    private static void failsIfItsIfIs1() {
        TrajectoryRails x = Rig.with("input a, b;", "given a is A then b is 1 if A.");
        Rig.due("only then", x.fails(), 1);
        Rig.due("for A", x.failing(0), 1);
        Rig.assertionDue(x, "given a is A then b is 1 if 0, a is !A if 0.");
        Rig.due("never", x.fails(), 0);
        Rig.assertionDue(x, "given a is A then b is 1 if 1.");
        Rig.due("always", x.fails(), 2);
    }

    // "a clause behind then, at a time": one of its times is enough.
    private static void failsAtAnyOfItsTimes() {
        for (int wrong = 2; wrong <= 9; wrong++) {
            TrajectoryRails x = Rig.with("input a;", "given a is 1 at 0 to " + (wrong - 1) + ", a is 0 at " + wrong
                    + ", a is 1 at " + (wrong + 1) + " to 11 then a is 1 at 2 to 9.");
            Rig.due("wrong at " + wrong, x.fails(), 1);
            Rig.due("when", x.shortfall(0, 1), wrong);
        }
        for (int wrong : new int[] {1, 10}) {
            TrajectoryRails x = Rig.with("input a;", "given a is 1 at 2 to 9, a is 0 at " + wrong + " then a is 1 at 2 to 9.");
            Rig.due("outside of its times", x.fails(), 0);
        }
    }
}
