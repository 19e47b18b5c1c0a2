/** The bounds in the document's words on circuits and their faults; above each test its sentence. */
public final class CircuitEdgeTest {
    private static final int NONE = TrajectoryRails.NONE;
    private static final int REFUSED = TrajectoryRails.REFUSED;

    public static void main(String[] args) {
        noItemAtAll();
        inputHasOneNameOrMore();
        atMost40Nodes();
        numbersAsDeclared();
        namesAreAllDifferent();
        namesWhereverDeclared();
        oneDigit0Or1();
        atMost10Deep();
        depthEndsWithItsOperand();
        atMost300Atoms();
        bracketsAreNotCounted();
        eachCircuitIsCountedAnew();
        firstTokenThatCanNotStand();
        firstByteThatBeginsNoToken();
        tooMuchAtItsOwn();
        endIfSomethingIsMissing();
        firstNameThatIsNoNode();
        unknownOnlyWithoutOtherFaults();
        wireThatDependsOnItself();
        notByLatches();
        firstByNumbers();
        loopOnlyWithoutUnknownNames();
        circuitTakesTheAssertion();
        faultLeavesCircuitAndAssertion();
        Rig.finish();
    }

    private static void circuit(String marked) {
        Rig.circuitDue(new TrajectoryRails(), marked);
    }

    private static String nodes(int many, String before, String behind) {
        StringBuilder text = new StringBuilder();
        for (int n = 0; n < many; n++) {
            text.append(before).append('n').append(n).append(behind);
        }
        return text.toString();
    }

    private static String inputs(int many) {
        return "input n0" + nodes(many, ",", "").substring(3);
    }

    // "CIRCUIT ...: { ITEM }" and promise 4, "(an empty TAPE is a circuit without nodes)"
    private static void noItemAtAll() {
        TrajectoryRails x = Rig.with("input a;");
        Rig.circuitDue(x, "");
        Rig.due("no nodes", x.count(0), 0);
        Rig.due("no cone", x.cone(0), NONE);
        Rig.circuitDue(x, "\n  \n");
        Rig.due("nor of blanks", x.count(0), 0);
        circuit("~;");
        circuit("input a;~;");
        circuit("~a");
        circuit("~=");
    }

    // "input NAME { , NAME } ;"
    private static void inputHasOneNameOrMore() {
        circuit("input ~;");
        circuit("input a;");
        circuit("input a, b;");
        circuit("input a,~;");
        circuit("input ~, a;");
        circuit("input a,~, b;");
        circuit("input a ~= 1;");
        circuit("wire a = 1~, b = 1;");
        circuit("wire a~, b = 1;");
        circuit("latch a~;");
    }

    // "at most 40"
    private static void atMost40Nodes() {
        circuit(inputs(39) + ";");
        circuit(inputs(40) + ";");
        circuit(inputs(40) + ",~n40;");
        circuit(inputs(40) + ",~n40, n41;");
        circuit(inputs(40) + ",~n39;");
        circuit(nodes(40, "wire ", "=1;"));
        circuit(nodes(40, "wire ", "=1;") + "wire ~n40=1;");
        circuit(nodes(40, "latch ", "=0;"));
        circuit(nodes(40, "latch ", "=0;") + "latch ~n40=0;");
        circuit(inputs(39) + "; wire w = 1;");
        circuit(inputs(39) + "; wire w = 1; latch ~l = 1;");
        circuit(inputs(39) + "; latch l = 1; input ~i;");
        circuit(inputs(40) + "; wire ~");
        TrajectoryRails x = Rig.with(inputs(40) + ";");
        Rig.due("forty nodes", x.count(0), 40);
        Rig.assertionDue(x, "given n0 is 0, n39 is 1 then n39 is 1.");
        Rig.due("node 39", x.value(39, 0, 0), 1);
        Rig.due("node 40", x.value(40, 0, 0), NONE);
        Rig.assertionDue(x, "given ~n40 is 0 then n39 is 1.");
    }

    // "NODES, numbered from 0 as their names are declared"
    private static void numbersAsDeclared() {
        TrajectoryRails x = Rig.with("wire z = m; input m, b; latch a = z; input y;",
                "given z is A, m is 1, b is 0, y is 0 if 0 then a is A at 1.");
        Rig.due("z is 0", x.cone(0), 1);
        Rig.due("m is 1", x.value(1, 0, 1), 1);
        Rig.due("b is 2", x.value(2, 0, 1), 0);
        Rig.due("a is 3", x.value(3, 1, 1), 1);
        Rig.due("y is 4", x.value(4, 0, 1), 2);
        Rig.due("none is 5", x.value(5, 0, 1), NONE);
    }

    // "all different"
    private static void namesAreAllDifferent() {
        String[] first = {"input a;", "wire a = 1;", "latch a = 1;"};
        String[] second = {"input ~a;", "wire ~a = 1;", "latch ~a = 1;", "input b, ~a;"};
        for (String one : first) {
            for (String other : second) {
                circuit(one + " " + other);
                circuit(one + " input c; " + other);
            }
        }
        circuit("input a, ~a;");
        circuit(inputs(39) + ",~n0;");
        circuit(inputs(39) + ",~n38;");
        // Another circuit's names are free.
        TrajectoryRails x = Rig.with("input a, b;");
        Rig.circuitDue(x, "input b, ~b;");
        Rig.circuitDue(x, "input b, a;");
    }

    // "ATOM: the NAME of a node, wherever that is declared"
    private static void namesWhereverDeclared() {
        circuit("wire a = b; input b;");
        circuit("input b; wire a = b;");
        circuit("latch a = a;");
        circuit("latch a = b; latch b = a;");
        circuit("wire w = n39;" + inputs(38) + "; wire n39 = n0;");
        circuit("wire w = ~n40;" + inputs(39) + ";");
        circuit("wire w = " + nodes(39, "", "&") + "1;" + inputs(39) + ";");
    }

    // "the one digit 0 or 1"
    private static void oneDigit0Or1() {
        circuit("wire a = 0; latch b = 1;");
        for (String number : new String[] {"2", "9", "00", "01", "10", "11", "000", "001", "0000", "0001", "9999"}) {
            circuit("wire a = ~" + number + ";");
            circuit("latch a = 1 & !(~" + number + ");");
        }
    }

    // "! and brackets at most 10 deep"
    private static void atMost10Deep() {
        for (int nots = 0; nots <= 10; nots++) {
            int brackets = 10 - nots;
            String deep = "!".repeat(nots) + "(".repeat(brackets);
            String out = ")".repeat(brackets);
            circuit("wire a = " + deep + "1" + out + ";");
            circuit("wire a = " + deep + "~!1" + out + ";");
            circuit("wire a = " + deep + "~(1)" + out + ";");
            circuit("wire a = " + "(".repeat(brackets) + "!".repeat(nots) + "1" + out + ";");
            circuit("wire a = " + "(".repeat(brackets) + "!".repeat(nots) + "~!1" + out + ";");
            circuit("wire a = " + "(1&".repeat(brackets) + "!".repeat(nots) + "~(1)" + out + ";");
            circuit("latch a = " + "(0|".repeat(brackets) + "!".repeat(nots) + "a" + out + ";");
        }
        circuit("wire a = " + "(".repeat(10) + "1 & 0 | 1 ^ ~!1" + ")".repeat(10) + ";");
        circuit("wire a = " + "(".repeat(10) + "~" + "(".repeat(90));
    }

    // "at most 10 deep": what is closed is not deep any more.
    private static void depthEndsWithItsOperand() {
        String ten = "((((((((((1))))))))))";
        circuit("wire a = " + ten + "&" + ten + "|" + ten + "^" + ten + "; wire b = " + ten + ";");
        String nots = "!!!!!!!!!!1";
        circuit("wire a = " + nots + "&" + nots + "|" + nots + "^" + nots + "; wire b = " + nots + ";");
        circuit("wire a = !(!(!(!(!(1)&1)|1)^1)&1)&!!!!!(((((1)))));");
        circuit("wire a = !(!(!(!(!(1)&1)|1)^1)&!!!!!!!!1);");
        circuit("wire a = !(!(!(!(!(1)&1)|1)^1)&!!!!!!!!~!1);");
        circuit("wire a = (((((((((1)&(1))|(1)))))))^!!!!!!!!1);");
        circuit("wire a = " + ten.substring(0, 20) + "~;");
        circuit("wire a = " + ten + "~);");
    }

    // "in a circuit at most 300 ATOMS that are no brackets"
    private static void atMost300Atoms() {
        String atoms299 = "1&".repeat(298) + "0";
        circuit("wire a = " + atoms299 + "|1;");
        circuit("wire a = " + atoms299 + "|1^~1;");
        circuit("input i; wire a = " + "i&".repeat(299) + "i;");
        circuit("input i; wire a = " + "i&".repeat(300) + "~i;");
        circuit("wire a = " + atoms299 + "; latch b = a;");
        circuit("wire a = " + atoms299 + "; latch b = a & ~b;");
        circuit("wire a = " + atoms299 + "; latch b = 1; latch c = ~1;");
        circuit("wire a = " + atoms299 + "; latch b = 1; latch c = !(!~1);");
        // Names that are declared are no ATOMS, be there 300 of these or not.
        circuit("wire a = " + atoms299 + "; latch b = 1; input c, d, e;");
        // An unknown one is counted like the others, and the fault that is no name's comes first.
        circuit("wire a = zz & " + atoms299 + "^~0;");
    }

    // "ATOMS that are no brackets"
    private static void bracketsAreNotCounted() {
        circuit("wire a = " + "(1)&".repeat(299) + "(1);");
        circuit("wire a = " + "(1)&".repeat(300) + "(~1);");
        circuit("wire a = " + "((1))&".repeat(299) + "1;");
        circuit("wire a = " + "!(1)&".repeat(299) + "!1;");
        circuit("wire a = " + "1&".repeat(299) + "((((((((((1))))))))));");
        circuit("wire a = " + "1&".repeat(300) + "((((((((((~1))))))))));");
        circuit("wire a = " + "1&".repeat(300) + "!!~;");
    }

    // "in a circuit": not in all of them together.
    private static void eachCircuitIsCountedAnew() {
        TrajectoryRails x = new TrajectoryRails();
        for (int round = 0; round < 3; round++) {
            Rig.circuitDue(x, "wire a = " + "1&".repeat(299) + "1;");
            Rig.circuitDue(x, "wire a = " + "1&".repeat(300) + "~1;");
            Rig.circuitDue(x, inputs(40) + ";");
            Rig.circuitDue(x, inputs(40) + ",~b;");
            Rig.circuitDue(x, "wire a = ((((((((((~!");
            Rig.circuitDue(x, "wire a = !!!!!!!!!!1;");
        }
    }

    // "FAULT: the place of the first token that can not stand there"
    private static void firstTokenThatCanNotStand() {
        circuit("~wires a = 1; # input a, a;");
        circuit("input ~; input ;");
        circuit("wire ~= ) ) #");
        circuit("wire a = 1 ~0 0;");
        circuit("input a; wire b = a & ~| zz;");
        circuit("input a; ~given a is 1 then a is 1.");
        circuit("wire a = (1 ~; #");
        circuit("wire a = ~A | abcdefghi;");
    }

    // "or of the first byte that begins no token (of what is too long its first)"
    private static void firstByteThatBeginsNoToken() {
        circuit("~# ; ; ;");
        circuit("input a~#, a;");
        circuit("input a, ~_b;");
        circuit("input ~abcdefghij, #;");
        circuit("wire a = ~00000;");
        circuit("wire a = ~ABCDE;");
        circuit("wire a = 1~\u0080;");
        circuit("wire a = 1~\u00ff;");
        circuit("wire a = 1 ~\u0000");
        circuit("input a;~\u007f");
    }

    // "(for one that is too much, too great, .. or declared already: its own)"
    private static void tooMuchAtItsOwn() {
        circuit(inputs(40) + " , ~zz;");
        circuit("wire a = " + "1 & ".repeat(300) + "~1 ;");
        circuit("wire a = " + "! ".repeat(10) + "~! 1;");
        circuit("wire a = " + "( ".repeat(10) + "~( 1");
        circuit("input a , ~a ;");
        circuit("wire a = 0 | ~2 ;");
    }

    // "or of the end if something is missing"
    private static void endIfSomethingIsMissing() {
        String[] tokens = {"input", "a", ",", "b", ";", "wire", "c", "=", "!", "(", "a", "&", "b", "|", "1", "^", "0",
            ")", ";", "latch", "d", "=", "c", ";"};
        for (String gap : new String[] {" ", "\n", "  "}) {
            StringBuilder text = new StringBuilder();
            for (String token : tokens) {
                text.append(token);
                boolean whole = token.equals(";");
                circuit(text + (whole ? "" : "~"));
                circuit(text + gap + (whole ? "" : "~"));
                text.append(gap);
            }
        }
    }

    // "of a circuit, if there is none of these: the place of the first name that is no node"
    private static void firstNameThatIsNoNode() {
        circuit("wire a = ~b;");
        circuit("latch a = ~b;");
        circuit("wire a = 1 & !(1 | ~y) ^ x; wire c = z;");
        circuit("wire a = c ^ (c & ~y); latch c = x;");
        circuit("wire a = c | ~x & y; input c;");
        circuit("wire a = c & ~x | y; input c;");
        circuit("wire a = !(c ^ !~x) & y; input c;");
        circuit("input a; wire b = a; latch c = b & ~aa;");
        // What was a node in the circuit before is none now.
        TrajectoryRails x = Rig.with("input a, b;");
        Rig.circuitDue(x, "input a; wire c = ~b;");
    }

    // "if there is none of these"
    private static void unknownOnlyWithoutOtherFaults() {
        circuit("wire a = x; input ~");
        circuit("wire a = x; input b, ~b;");
        circuit("wire a = x; ~#");
        circuit("wire a = x; latch b = ~2;");
        circuit("wire a = x & ~#;");
        circuit("wire a = x; input ~abcdefghi;");
    }

    // "that, where it is declared, of the first wire .. that depends on itself by wires alone
    // (by way of others, too)"
    private static void wireThatDependsOnItself() {
        circuit("wire ~a = a;");
        circuit("wire ~a = 0 & a;");
        circuit("wire ~a = !!(1 | (0 ^ a));");
        circuit("wire ~a = b; wire b = a;");
        circuit("wire ~a = b; wire b = c; wire c = a;");
        circuit("input i; wire w = i; wire ~a = w | b; wire b = a;");
        StringBuilder ring = new StringBuilder("wire ~n0=n39;");
        for (int n = 1; n < 40; n++) {
            ring.append("wire n").append(n).append("=n").append(n - 1).append(';');
        }
        circuit(ring.toString());
        circuit(ring.toString().replace("~", "").replace("n0=n39", "n0=1"));
        circuit(ring.toString().replace("~", "").replace("n0=n39", "n0=1").replace("n39=", "~n39=n39&"));
    }

    // "by wires alone"
    private static void notByLatches() {
        circuit("latch a = a;");
        circuit("wire a = b; latch b = a;");
        circuit("latch b = a; wire a = b;");
        circuit("wire a = b; latch b = c; wire c = a;");
        circuit("wire a = b | ~c; input b;");
        circuit("latch l = a; wire a = l; wire b = l & a; latch m = b ^ m;");
        circuit("latch l = a; wire ~a = l & b; wire b = a ^ l;");
    }

    // "of the first wire, by numbers": one that only leads to a loop is not in it.
    private static void firstByNumbers() {
        circuit("wire a = b; wire ~b = b;");
        circuit("wire a = b; wire ~b = c; wire c = b;");
        circuit("wire a = 1; wire ~b = b; wire c = c;");
        circuit("wire a = c; wire ~b = b; wire c = 1; wire d = d;");
        circuit("wire a = e; latch l = a; wire ~c = d; wire d = c; wire e = e;");
        circuit("wire ~z = y; wire y = x; wire x = z;");
    }

    // "else that": a name that is no node comes before.
    private static void loopOnlyWithoutUnknownNames() {
        circuit("wire a = a; wire b = ~x;");
        circuit("wire a = a & ~x;");
        circuit("wire a = a; latch ~");
    }

    // Promise 4: "The TAPE as a text becomes the circuit; there is no assertion then: NONE"
    private static void circuitTakesTheAssertion() {
        for (String text : new String[] {"input a, b;", "input c;", ""}) {
            TrajectoryRails x = Rig.with("input a, b;", "given a is A then b is A at 3.");
            Rig.circuitDue(x, text);
            Rig.due("fails", x.fails(), REFUSED);
            Rig.due("excluded", x.excluded(), REFUSED);
            Rig.due("failing", x.failing(0), NONE);
            Rig.due("shortfall", x.shortfall(0, 0), NONE);
            Rig.due("value", x.value(0, 0, 0), NONE);
            Rig.due("matters", x.matters(0, 0, 0), NONE);
            for (int what = 4; what <= 7; what++) {
                Rig.due("count " + what, x.count(what), 0);
            }
        }
    }

    // Promise 4: "Its FAULT if it has one: the circuit and the assertion stay."
    private static void faultLeavesCircuitAndAssertion() {
        String[] faulty = {"~x", "input c~", inputs(40) + ",~zz;", "wire a = ~x;", "wire ~a = a;", "input a, ~a;",
            "wire q = " + "1&".repeat(300) + "~1;", "latch b = 1; latch a = b; input z; wire ~w = w;"};
        TrajectoryRails x = Rig.with("input a, b; wire c = a & b;", "given a is A, b is B then c is A at 0 to 2.");
        for (int round = 0; round < 2; round++) {
            for (String text : faulty) {
                Rig.circuitDue(x, text);
                Rig.due("nodes", x.count(0), 3);
                Rig.due("inputs", x.count(1), 2);
                Rig.due("wires", x.count(2), 1);
                Rig.due("latches", x.count(3), 0);
                Rig.due("cone", x.cone(2), 2);
                Rig.due("variables", x.count(4), 2);
                Rig.due("the last", x.count(7), 2);
                Rig.due("fails", x.fails(), 4);
                Rig.due("value", x.value(2, 0, 3), 1);
                Rig.due("shortfall", x.shortfall(2, 1), 0);
                Rig.due("matters", x.matters(2, 0, 1), 1);
            }
            Rig.assertionDue(x, "given a is A, b is B then c is A at 0 to 2.");
        }
    }
}
