/** Promise 4, circuit, with 12, cone, and the first half of 13, count. */
public final class CircuitTest {
    private static final int NONE = TrajectoryRails.NONE;
    private static final int REFUSED = TrajectoryRails.REFUSED;

    public static void main(String[] args) {
        sound();
        tokens();
        grammar();
        limits();
        unknownNames();
        loops();
        everyByte();
        fullTape();
        oneObjectForAll();
        faultLeavesAll();
        cones();
        counts();
        Rig.finish();
    }

    private static void due(String text, int want) {
        Rig.due("circuit of " + text, Rig.circuit(new TrajectoryRails(), text), want);
    }

    private static void sound() {
        due("", NONE);
        due(" \n ", NONE);
        due("input a;", NONE);
        due("input a,b,c;input d;", NONE);
        due("wire a=0;latch b=1;", NONE);
        due("wire a = b & !c | (d ^ 1); input b, c; latch d = d;", NONE);
        due("latch a = b; latch b = a;", NONE);
        due("wire a = b; latch b = a;", NONE);
        due("input inputs, wires, isa, toto, a_, a1_b, i, given1;", NONE);
    }

    private static void tokens() {
        due("input abcdefgh;", NONE);
        due("input abcdefghi;", 6);
        due("input a2345678;", NONE);
        due("input a, b_345678_;", 9);
        due("input _a;", 6);
        due("input a_;", NONE);
        due("input 1a;", 6);
        due("input aB;", 7);
        due("input a\tb;", 7);
        due("input\na\n;", NONE);
        due("input a\r;", 7);
        due("input a; #", 9);
        due("input a; wire b = a + a;", 20);
        due("input a; wire b = \u00e9;", 18);
        for (String word : "input wire latch given then is if at to".split(" ")) {
            due("input " + word + ";", 6);
            due("wire a = " + word + ";", 9);
        }
        due("inputa;", 0);
        due("input a; wire b = a1;", 18);
        due("input a; wire b = 1a;", 19);
        due("input a; wire b = 00001;", 18);
        due("input a; wire b = ABCDE;", 18);
        due("INPUT a;", 0);
    }

    private static void grammar() {
        due("input", 5);
        due("input  ", 7);
        due("input ;", 6);
        due("input a", 7);
        due("input a,", 8);
        due("input a,;", 8);
        due("input a b;", 8);
        due("input a = 1;", 8);
        due("input a;;", 8);
        due("a = 1;", 0);
        due("wire a;", 6);
        due("wire a = ;", 9);
        due("wire a = 1", 10);
        due("wire a = 1 1;", 11);
        due("wire a = 1, b = 1;", 10);
        due("wire = 1;", 5);
        due("wire a == 1;", 8);
        due("wire a = 1 !1;", 11);
        due("wire a = !;", 10);
        due("wire a = !!1 & ! 0;", NONE);
        due("wire a = (1;", 11);
        due("wire a = 1);", 10);
        due("wire a = (1 | 0)) ;", 16);
        due("wire a = ();", 10);
        due("wire a = (1 0);", 12);
        due("wire a = 1 & | 1;", 13);
        due("wire a = & 1;", 9);
        due("wire a = A;", 9);
        due("wire a = 2;", 9);
        due("wire a = 10;", 9);
        due("wire a = 00;", 9);
        due("latch a = 01;", 10);
        due("wire a = (1", 11);
        due("wire a = 1.", 10);
        due("given a is 1 then a is 1.", 0);
        due("input a; input a;", 15);
        due("input a; wire a = 1;", 14);
        due("wire a = 1; latch a = #;", 18);
        due("input a; wire b = zz & #;", 23);
    }

    private static String names(int many) {
        StringBuilder text = new StringBuilder("input n0");
        for (int i = 1; i < many; i++) {
            text.append(",n").append(i);
        }
        return text.toString();
    }

    private static void limits() {
        due(names(40) + ";", NONE);
        due(names(41) + ";", names(41).length() - 3);
        due(names(40) + "; wire zz = 1;", names(40).length() + 7);
        due(names(40) + "; latch zz = 1;", names(40).length() + 8);
        TrajectoryRails x = Rig.with(names(40) + ";");
        Rig.due("forty nodes", x.count(1), 40);

        String atoms299 = "1&".repeat(298) + "1";
        due("wire a=" + atoms299 + "&0;", NONE);
        due("wire a=" + atoms299 + "&(0);", NONE);
        due("wire a=" + atoms299 + "&(0|1);", 7 + 600 + 2 - 1);
        due("wire a=" + atoms299 + ";wire b=a;", NONE);
        due("wire a=" + atoms299 + ";wire b=a^a;", 7 + 597 + 1 + 7 + 2);
        due("wire a=" + "(1)&".repeat(299) + "(1);", NONE);
        due("wire a=" + "!!1&".repeat(299) + "!1;", NONE);

        due("wire a=" + "(".repeat(10) + "1" + ")".repeat(10) + ";", NONE);
        due("wire a=" + "(".repeat(11) + "1" + ")".repeat(11) + ";", 17);
        due("wire a=" + "!".repeat(10) + "1;", NONE);
        due("wire a=" + "!".repeat(11) + "1;", 17);
        due("wire a=" + "!(".repeat(5) + "1" + ")".repeat(5) + ";", NONE);
        due("wire a=" + "!(".repeat(5) + "!1" + ")".repeat(5) + ";", 17);
        due("wire a=" + "!(".repeat(5) + "(1)" + ")".repeat(5) + ";", 17);
        due("wire a=" + "(1|!".repeat(5) + "1" + ")".repeat(5) + ";", NONE);
        due("wire a=" + "(1|!".repeat(5) + "!1" + ")".repeat(5) + ";", 27);
        due("wire a=" + "(((((((((1)))))))))&((((((((((1))))))))));", NONE);
        due("wire a=" + "!!!!!!!!!1|!!!!!!!!!!1^!!!!!!!!!!(1);", 40);
        due("wire a=" + "(1|1^1&".repeat(10) + "1" + ")".repeat(10) + ";", NONE);
    }

    private static void unknownNames() {
        due("wire a = b;", 9);
        due("wire a = 1 & zz | b; input b;", 13);
        due("latch a = zz;", 10);
        due("wire a = y; wire b = x;", 9);
        due("wire a = a; wire b = x;", 21);
        due("wire a = b; wire", 16);
        due("wire b = a; input c; input a;", NONE);
        due("wire b = aa; input a;", 9);
        due("input ab; wire c = ba;", 19);
    }

    private static void loops() {
        due("wire a = a;", 5);
        due("wire a = 0 & a;", 5);
        due("wire a = b; wire b = c; wire c = b;", 17);
        due("wire a = b; wire b = a;", 5);
        due("input z; wire y = z; wire a = c; wire b = y; wire c = a & b;", 26);
        due("wire a = q; latch q = a;", NONE);
        due("latch q = a; wire a = b | q; wire b = q;", NONE);
        due("latch q = a; wire a = b; wire b = a ^ q;", 18);
        due("wire a = c; wire b = b; wire c = 1;", 17);
        due("wire c = d; wire d = e; wire e = f; wire f = c;", 5);
    }

    private static void everyByte() {
        for (int b = 0; b < 256; b++) {
            String c = String.valueOf((char) b);
            boolean goesOn = b >= 'a' && b <= 'z' || b >= '0' && b <= '9' || b == '_' || b == ' ' || b == 10;
            due("input x" + c + ";", goesOn ? NONE : c.equals(",") || c.equals(";") ? 8 : 7);
            boolean begins = b >= 'a' && b <= 'z' || b == ' ' || b == 10;
            due("input " + c + "x;", begins ? NONE : 6);
            boolean sign = "&|^".indexOf(b) >= 0;
            boolean blank = b == ' ' || b == 10;
            boolean needsMore = blank || b == '!' || b == '(';
            due("wire xx = 1 &" + c + ";", b == '0' || b == '1' ? NONE : needsMore ? 14 : 13);
            boolean digit = b >= '0' && b <= '9';
            due("wire x = 1" + c + "1;", sign ? NONE : digit ? 9 : blank || b == ';' ? 11 : 10);
        }
    }

    private static void fullTape() {
        due("(".repeat(2000), 0);
        due("input a;" + " ".repeat(1991) + ";", 1999);
        due("input a;" + " ".repeat(1992), NONE);
        due("wire a=" + "!!!!!1&".repeat(284) + "1;  ", NONE);
        due("a".repeat(2000), 0);
        due("latch a=" + "!".repeat(1992), 18);
    }

    private static void oneObjectForAll() {
        TrajectoryRails x = new TrajectoryRails();
        String deep = "wire a=" + "(!".repeat(5) + "1" + ")".repeat(5) + ";";
        String long200 = "wire a=" + "1&".repeat(200) + "1; wire b = a & a;";
        for (int round = 0; round < 3; round++) {
            Rig.due("deep", Rig.circuit(x, deep), NONE);
            Rig.due("deep, not closed", Rig.circuit(x, deep.substring(0, 17)), 17);
            Rig.due("long", Rig.circuit(x, long200), NONE);
            Rig.due("long, not ended", Rig.circuit(x, long200.substring(0, 401)), 401);
            Rig.due("cone", x.cone(1), 1);
            Rig.due("inputs in place of wires", Rig.circuit(x, "input a, b; wire c = b; input d;"), NONE);
            Rig.due("cone of a", x.cone(0), 0);
            Rig.due("cone of b", x.cone(1), 0);
            Rig.due("cone of c", x.cone(2), 1);
            Rig.due("wires in place of inputs", Rig.circuit(x, "latch a = d; wire b = a | d; wire c = b; latch d = c;"), NONE);
            Rig.due("cone of d", x.cone(3), 4);
        }
    }

    private static void faultLeavesAll() {
        TrajectoryRails x = Rig.with("input a, b; wire c = a & b;", "given a is P then c is P at 2.");
        Rig.due("syntax", Rig.circuit(x, "input z; wire"), 13);
        Rig.due("unknown", Rig.circuit(x, "wire z = y;"), 9);
        Rig.due("loop", Rig.circuit(x, "wire z = z;"), 5);
        Rig.due("nodes", x.count(0), 3);
        Rig.due("wires", x.count(2), 1);
        Rig.due("cone", x.cone(2), 2);
        Rig.due("fails", x.fails(), 2);
        Rig.due("last", x.count(7), 2);
        Rig.due("value", x.value(2, 0, 0), 0);
        Rig.due("the names too", Rig.assertion(x, "given c is 1 then a is 1."), NONE);
        Rig.due("z is none", Rig.assertion(x, "given z is 1 then a is 1."), 6);
        Rig.due("fails then", x.fails(), 1);
        Rig.due("a sound one", Rig.circuit(x, "input z;"), NONE);
        Rig.due("has no assertion", x.fails(), REFUSED);
        Rig.due("nodes then", x.count(0), 1);
        Rig.due("variables then", x.count(4), 0);
        Rig.due("a is none", Rig.assertion(x, "given a is 1 then z is 1."), 6);
        Rig.due("the same one again", Rig.circuit(x, "input z;"), NONE);
        Rig.due("a circuit without nodes", Rig.circuit(x, ""), NONE);
        Rig.due("no cone", x.cone(0), NONE);
    }

    private static void cones() {
        TrajectoryRails x = Rig.with("input a, b; wire c = a & a; latch d = c | d; latch e = d; wire f = 0;"
                + " latch g = h; latch h = g ^ b; wire i = e & f; wire j = !i;");
        int[] want = {0, 0, 1, 3, 3, 0, 3, 3, 5, 6};
        for (int node = 0; node < want.length; node++) {
            Rig.due("cone of " + node, x.cone(node), want[node]);
        }
        Rig.due("cone of 10", x.cone(10), NONE);
        Rig.due("cone of -1", x.cone(-1), NONE);
        Rig.due("cone of the greatest", x.cone(Integer.MAX_VALUE), NONE);
        Rig.due("cone of the least", x.cone(Integer.MIN_VALUE), NONE);
        StringBuilder chain = new StringBuilder("input n0;");
        for (int i = 1; i < 40; i++) {
            chain.append("latch n").append(i).append("=n").append(i - 1).append(';');
        }
        Rig.due("a chain of forty", Rig.with(chain.toString()).cone(39), 39);
        String ring = chain.toString().replace("input n0;", "latch n0=n39;");
        Rig.due("a ring of forty", Rig.with(ring).cone(17), 40);
    }

    private static void counts() {
        TrajectoryRails x = Rig.with("input a, b, c; wire d = a; latch e = a; latch f = b;");
        int[] want = {6, 3, 1, 2, 0, 0, 0, 0};
        for (int what = 0; what < want.length; what++) {
            Rig.due("count " + what, x.count(what), want[what]);
        }
        Rig.due("count 8", x.count(8), REFUSED);
        Rig.due("count -1", x.count(-1), REFUSED);
        Rig.due("count of the least", x.count(Integer.MIN_VALUE), REFUSED);
        Rig.due("count of the greatest", x.count(Integer.MAX_VALUE), REFUSED);
    }
}
