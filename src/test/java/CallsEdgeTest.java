/** The bounds in the document's words on the calls, promises 1 to 13; above each test its sentence. */
public final class CallsEdgeTest {
    private static final int NONE = TrajectoryRails.NONE;
    private static final int REFUSED = TrajectoryRails.REFUSED;
    private static final int FULL = TrajectoryRails.FULL;
    private static final int LEAST = Integer.MIN_VALUE, GREATEST = Integer.MAX_VALUE;
    /** Numbers that are never a node, a time, an assignment, a variable or a what. */
    private static final int[] STRAYS = {-1, -2, -3, -64, -512, LEAST, LEAST + 1, 512, 513, 1024, 65536, 1 << 30, GREATEST};
    private static final String NINE = "A^B^C^D^E^F^G^H^I";

    public static void main(String[] args) {
        newObject();
        objectsAreTheirOwn();
        feedTakesTheHighestByteFirst();
        feedTellsHowManyThereAre();
        feedThatWouldBeTooMuch();
        endCuts();
        endBeyondTheTape();
        endBelow0();
        failsFromNoneToAll();
        failsWithoutAnAssertion();
        excludedFromNoneToAll();
        excludedWithoutAnAssertion();
        failingByRisingNumbers();
        failingBeyondTheLast();
        failingWithoutAnAssertion();
        shortfallIsTheFirstClause();
        shortfallIsAtTheLeastTime();
        shortfallOfOneThatDoesNotFail();
        shortfallOfAnotherWhat();
        valuesAre0And1And2();
        valueOfAnExcludedOne();
        valueOfNone();
        mattersOfTwoThatDifferInItAlone();
        mattersWithXAndWithout();
        mattersWithExcludedOnes();
        mattersOfNone();
        coneOfNodes();
        coneWithItself();
        coneOfNone();
        countsFrom0To7();
        countsWithoutThem();
        countsOfOthers();
        theLastCall();
        Rig.finish();
    }

    private static int feedByte(TrajectoryRails x, int b) {
        int word = b << 24 | b << 16 | b << 8 | b;
        return x.feed(word, word, word, word, word);
    }

    /** What is due of every call where there is no assertion. */
    private static void noAssertion(TrajectoryRails x) {
        Rig.due("fails", x.fails(), REFUSED);
        Rig.due("excluded", x.excluded(), REFUSED);
        Rig.due("failing", x.failing(0), NONE);
        Rig.due("shortfall 0", x.shortfall(0, 0), NONE);
        Rig.due("shortfall 1", x.shortfall(0, 1), NONE);
        Rig.due("shortfall 2", x.shortfall(0, 2), REFUSED);
        Rig.due("value", x.value(0, 0, 0), NONE);
        Rig.due("matters", x.matters(0, 0, 0), NONE);
        for (int what = 4; what <= 7; what++) {
            Rig.due("count " + what, x.count(what), 0);
        }
    }

    // Promise 1: "No circuit, no assertion."
    private static void newObject() {
        TrajectoryRails x = new TrajectoryRails();
        noAssertion(x);
        for (int what = 0; what <= 3; what++) {
            Rig.due("count " + what, x.count(what), 0);
        }
        Rig.due("cone", x.cone(0), NONE);
        Rig.due("end", x.end(0), 0);
    }

    // Promise 1: each new one, whatever others have been told.
    private static void objectsAreTheirOwn() {
        TrajectoryRails x = Rig.with("input a, b;", "given a is A then b is A at 3.");
        TrajectoryRails y = new TrajectoryRails();
        noAssertion(y);
        Rig.circuitDue(y, "wire c = 1;");
        Rig.assertionDue(y, "given c is 1 then c is 1.");
        Rig.due("the first one's nodes", x.count(1), 2);
        Rig.due("the first one's fails", x.fails(), 2);
        Rig.due("the second one's nodes", y.count(1), 0);
        Rig.due("the second one's fails", y.fails(), 0);
        feedByte(x, ' ');
        Rig.due("the tapes, too", y.end(1), REFUSED);
    }

    // Promise 2: "Twenty bytes, five times four, the highest of each first"
    private static void feedTakesTheHighestByteFirst() {
        for (int place = 0; place < 20; place++) {
            for (int b : new int[] {0, 127, 128, 255}) {
                TrajectoryRails x = new TrajectoryRails();
                int[] words = {0x20202020, 0x20202020, 0x20202020, 0x20202020, 0x20202020};
                int shift = 8 * (3 - place % 4);
                words[place / 4] = words[place / 4] & ~(255 << shift) | b << shift;
                Rig.due("feed", x.feed(words[0], words[1], words[2], words[3], words[4]), 20);
                Rig.due("byte " + b + " at " + place, x.circuit(), place);
            }
        }
        TrajectoryRails x = new TrajectoryRails();
        x.feed(0x696e7075, 0x74206261, 0x2c64632c, 0x66652c68, 0x673b2020);
        Rig.due("input ba,dc,fe,hg;", x.circuit(), NONE);
        x.feed(0x67697665, 0x6e206261, 0x20697320, 0x31207468, 0x656e2064);
        x.feed(0x63206973, 0x20302e20, 0x20202020, 0x20202020, 0x20202020);
        Rig.due("given ba is 1 then dc is 0.", x.assertion(), NONE);
    }

    // Promise 2: "come to the TAPE: how many it has"
    private static void feedTellsHowManyThereAre() {
        TrajectoryRails x = new TrajectoryRails();
        Rig.due("the first", feedByte(x, ' '), 20);
        Rig.due("the second", feedByte(x, ' '), 40);
        x.end(1);
        Rig.due("behind one that was left", feedByte(x, ' '), 21);
        x.end(0);
        Rig.due("behind none", feedByte(x, ' '), 20);
        x.circuit();
        Rig.due("behind a reading", feedByte(x, ' '), 20);
    }

    // Promise 2: "FULL if it would have more than 2000"
    private static void feedThatWouldBeTooMuch() {
        TrajectoryRails x = new TrajectoryRails();
        for (int n = 0; n < 99; n++) {
            feedByte(x, ' ');
        }
        Rig.due("2000", feedByte(x, ' '), 2000);
        Rig.due("2020", feedByte(x, '#'), FULL);
        Rig.due("2020 again", feedByte(x, '#'), FULL);
        x.end(1981);
        Rig.due("2001", feedByte(x, '#'), FULL);
        Rig.due("1981 stay", x.end(1982), REFUSED);
        Rig.due("1981 stay", x.end(1981), 1981);
        x.end(1980);
        Rig.due("2000 again", feedByte(x, ' '), 2000);
        Rig.due("nothing came of those", x.circuit(), NONE);
    }

    // Promise 3: "The TAPE is cut to its first n bytes: n"
    private static void endCuts() {
        TrajectoryRails x = new TrajectoryRails();
        Rig.due("0 of 0", x.end(0), 0);
        feedByte(x, ' ');
        feedByte(x, '#');
        Rig.due("all of them", x.end(40), 40);
        Rig.due("one less", x.end(39), 39);
        Rig.due("what is gone is gone", x.end(40), REFUSED);
        Rig.due("the first ones are left", x.end(21), 21);
        Rig.due("with the fault behind them", x.circuit(), 20);
        feedByte(x, ' ');
        feedByte(x, '#');
        x.end(20);
        Rig.due("without it", x.circuit(), NONE);
        feedByte(x, '#');
        Rig.due("1", x.end(1), 1);
        Rig.due("0", x.end(0), 0);
        Rig.due("nothing is left", x.circuit(), NONE);
    }

    // Promise 3: "REFUSED if it has less"
    private static void endBeyondTheTape() {
        TrajectoryRails x = new TrajectoryRails();
        Rig.due("1 of 0", x.end(1), REFUSED);
        Rig.due("2000 of 0", x.end(2000), REFUSED);
        feedByte(x, '#');
        for (int n : new int[] {21, 22, 40, 2000, 2001, 1 << 30, GREATEST}) {
            Rig.due(n + " of 20", x.end(n), REFUSED);
        }
        Rig.due("they are all there", x.end(20), 20);
    }

    // Promise 3: "or n is below 0"
    private static void endBelow0() {
        TrajectoryRails x = new TrajectoryRails();
        Rig.due("-1 of 0", x.end(-1), REFUSED);
        feedByte(x, '#');
        for (int n : new int[] {-1, -20, -2000, LEAST, LEAST + 1}) {
            Rig.due(n + " of 20", x.end(n), REFUSED);
        }
        Rig.due("they are all there", x.end(20), 20);
    }

    // Promise 6: "How many assignments fail"
    private static void failsFromNoneToAll() {
        TrajectoryRails x = Rig.with("input a, b;", "given a is " + NINE + " then a is " + NINE + ".");
        Rig.due("none", x.fails(), 0);
        Rig.assertionDue(x, "given a is " + NINE + " then a is !(" + NINE + ").");
        Rig.due("all", x.fails(), 512);
        Rig.assertionDue(x, "given a is 1 then a is 1 if A&B&C&D&E&F&G&H&I, a is 0 if A&B&C&D&E&F&G&H&I.");
        Rig.due("one", x.fails(), 1);
        Rig.assertionDue(x, "given a is 1 then a is A|B|C|D|E|F|G|H|I.");
        Rig.due("the first", x.failing(0) * 1000 + x.fails(), 1);
        Rig.assertionDue(x, "given a is 1 then b is 1, b is 0, a is 0.");
        Rig.due("an assignment that fails in three is one", x.fails(), 1);
    }

    // Promise 6: "REFUSED without an assertion"
    private static void failsWithoutAnAssertion() {
        TrajectoryRails x = new TrajectoryRails();
        Rig.due("new", x.fails(), REFUSED);
        Rig.circuitDue(x, "input a;");
        Rig.due("with a circuit alone", x.fails(), REFUSED);
        Rig.assertionDue(x, "given a is 1 then a is 1~");
        Rig.due("with a faulty one", x.fails(), REFUSED);
        Rig.assertionDue(x, "given a is 1 then a is 1.");
        Rig.due("with one", x.fails(), 0);
        Rig.circuitDue(x, "input a~");
        Rig.due("a faulty circuit takes none away", x.fails(), 0);
        Rig.circuitDue(x, "input a;");
        Rig.due("a circuit does", x.fails(), REFUSED);
    }

    // Promise 7: "How many are excluded"
    private static void excludedFromNoneToAll() {
        TrajectoryRails x = Rig.with("input a, b;", "given a is " + NINE + " then b is 1.");
        Rig.due("none", x.excluded(), 0);
        Rig.assertionDue(x, "given a is " + NINE + ", a is !(" + NINE + ") then b is 1.");
        Rig.due("all", x.excluded(), 512);
        Rig.due("so none fails", x.fails(), 0);
        Rig.assertionDue(x, "given a is A&B&C&D&E&F&G&H&I, a is 0 then b is 1.");
        Rig.due("the last", x.excluded() * 1000 + x.value(0, 0, 511), 1003);
        Rig.due("the others fail", x.fails(), 511);
        Rig.assertionDue(x, "given a is A|B|C|D|E|F|G|H|I, a is 1 then b is 1.");
        Rig.due("the first", x.excluded() * 1000 + x.value(0, 0, 0), 1003);
        Rig.assertionDue(x, "given a is 1 at 0 to 5, a is A at 0 to 5, a is A at 2 then b is 1.");
        Rig.due("at many times it is one", x.excluded(), 1);
    }

    // Promise 7: "REFUSED without an assertion"
    private static void excludedWithoutAnAssertion() {
        TrajectoryRails x = new TrajectoryRails();
        Rig.due("new", x.excluded(), REFUSED);
        Rig.circuitDue(x, "input a;");
        Rig.due("with a circuit alone", x.excluded(), REFUSED);
        Rig.assertionDue(x, "given a is 1 then a is 1~");
        Rig.due("with a faulty one", x.excluded(), REFUSED);
        Rig.assertionDue(x, "given a is 1, a is 0 then a is 1.");
        Rig.due("with one", x.excluded(), 1);
        Rig.circuitDue(x, "input a~");
        Rig.due("a faulty circuit takes none away", x.excluded(), 1);
        Rig.circuitDue(x, "input a;");
        Rig.due("a circuit does", x.excluded(), REFUSED);
    }

    // Promise 8: "The number of the k-th assignment that fails, from 0, by rising numbers"
    private static void failingByRisingNumbers() {
        TrajectoryRails x = Rig.with("input a;", "given a is 0 then a is " + NINE + ".");
        int k = 0;
        for (int n = 0; n < 512; n++) {
            if (Integer.bitCount(n) % 2 == 1) {
                Rig.due("failing " + k, x.failing(k), n);
                k++;
            }
        }
        Rig.assertionDue(x, "given a is " + NINE + " then a is !(" + NINE + ").");
        for (int n = 0; n < 512; n++) {
            Rig.due("failing " + n, x.failing(n), n);
        }
        Rig.assertionDue(x, "given a is " + NINE + " then a is 0 if C&D&E&F&G&H&I, a is 1 if C&D&E&F&G&H&I.");
        for (int n = 0; n < 4; n++) {
            Rig.due("failing " + n, x.failing(n), 128 * n + 127);
        }
        Rig.due("failing 4", x.failing(4), NONE);
    }

    // Promise 8: "NONE if there is none"
    private static void failingBeyondTheLast() {
        TrajectoryRails x = Rig.with("input a;", "given a is A then a is 1.");
        Rig.due("0", x.failing(0), 0);
        Rig.due("1", x.failing(1), NONE);
        for (int k : STRAYS) {
            Rig.due("failing " + k, x.failing(k), NONE);
        }
        Rig.assertionDue(x, "given a is A then a is A.");
        Rig.due("none fails", x.failing(0), NONE);
        Rig.assertionDue(x, "given a is " + NINE + " then a is !(" + NINE + ").");
        Rig.due("511 of 512", x.failing(511), 511);
        for (int k : STRAYS) {
            Rig.due("failing " + k + " of 512", x.failing(k), NONE);
        }
    }

    // Promise 8: "or no assertion"
    private static void failingWithoutAnAssertion() {
        TrajectoryRails x = Rig.with("input a;", "given a is 1 then a is 0.");
        Rig.due("with one", x.failing(0), 0);
        Rig.circuitDue(x, "input a;");
        Rig.due("0", x.failing(0), NONE);
        for (int k : STRAYS) {
            Rig.due("failing " + k, x.failing(k), NONE);
        }
    }

    // Promise 9: "the first clause behind then, by their order, .. what 0: its number from 0"
    private static void shortfallIsTheFirstClause() {
        StringBuilder text = new StringBuilder("given a is 1 at 0 to 11 then a is 1");
        for (int n = 1; n < 24; n++) {
            text.append(n == 7 || n == 23 ? ",a is " + (n == 7 ? "A" : "B") : ",a is 1").append(" at 3");
        }
        TrajectoryRails x = Rig.with("input a;", text + ".");
        int[] want = {7, 7, 23, NONE};
        for (int n = 0; n < 4; n++) {
            Rig.due("clause of " + n, x.shortfall(n, 0), want[n]);
            Rig.due("time of " + n, x.shortfall(n, 1), want[n] == NONE ? NONE : 3);
        }
        Rig.assertionDue(x, "given a is 1 then a is 0, a is 0.");
        Rig.due("the first of two", x.shortfall(0, 0), 0);
        // The first by their order, though another one has an earlier time.
        Rig.assertionDue(x, "given a is 1 then a is 1 at 5, a is 0 at 0.");
        Rig.due("by order", x.shortfall(0, 0), 0);
        Rig.due("not by time", x.shortfall(0, 1), 5);
        // What is given is not counted with them.
        Rig.assertionDue(x, "given a is 1, a is 1, a is 1 then a is 1, a is 0.");
        Rig.due("of those behind then", x.shortfall(0, 0), 1);
    }

    // Promise 9: "1: the least such time"
    private static void shortfallIsAtTheLeastTime() {
        TrajectoryRails x = Rig.with("input a;", "given a is 1 at 3 to 5, a is 0 at 7 then a is 1 at 3 to 11.");
        Rig.due("where it is X", x.shortfall(0, 1), 6);
        Rig.assertionDue(x, "given a is 1 at 0 to 10 then a is 1 at 0 to 11.");
        Rig.due("the last", x.shortfall(0, 1), 11);
        Rig.assertionDue(x, "given a is 1 at 1 to 11 then a is 1 at 0 to 11.");
        Rig.due("the first", x.shortfall(0, 1), 0);
        Rig.assertionDue(x, "given a is 1 at 4 then a is 1 at 2 to 5.");
        Rig.due("of its own times", x.shortfall(0, 1), 2);
        Rig.assertionDue(x, "given a is A at 0 to 3 then a is 0 if A at 3, a is 0 at 1 to 4.");
        Rig.due("of A", x.shortfall(1, 1), 3);
        Rig.due("of !A", x.shortfall(0, 1), 4);
    }

    // Promise 9: "NONE if it does not fail, there is none, or no assertion"
    private static void shortfallOfOneThatDoesNotFail() {
        TrajectoryRails x = Rig.with("input a;", "given a is A, a is 1 if B then a is 1.");
        int[] want = {0, NONE, NONE, NONE};
        for (int n = 0; n < 4; n++) {
            Rig.due("clause of " + n, x.shortfall(n, 0), want[n]);
            Rig.due("time of " + n, x.shortfall(n, 1), want[n]);
        }
        Rig.due("1 is excluded", x.value(0, 0, 1), 3);
        Rig.due("no assignment 4", x.shortfall(4, 0), NONE);
        for (int n : STRAYS) {
            Rig.due("clause of " + n, x.shortfall(n, 0), NONE);
            Rig.due("time of " + n, x.shortfall(n, 1), NONE);
        }
        Rig.assertionDue(x, "given a is " + NINE + " then a is !(" + NINE + ").");
        Rig.due("511 of 512", x.shortfall(511, 0), 0);
        for (int n : STRAYS) {
            Rig.due("of 512, of " + n, x.shortfall(n, 0), NONE);
        }
        Rig.circuitDue(x, "input a;");
        Rig.due("no assertion", x.shortfall(0, 0), NONE);
        Rig.due("no assertion", x.shortfall(511, 1), NONE);
    }

    // Promise 9: "REFUSED for another what, first"
    private static void shortfallOfAnotherWhat() {
        TrajectoryRails none = new TrajectoryRails();
        TrajectoryRails x = Rig.with("input a;", "given a is A then a is 1.");
        for (int what : new int[] {-1, 2, 3, LEAST, GREATEST, 256, 65536}) {
            Rig.due("without an assertion", none.shortfall(0, what), REFUSED);
            Rig.due("of one that fails", x.shortfall(0, what), REFUSED);
            Rig.due("of one that does not", x.shortfall(1, what), REFUSED);
            Rig.due("of none", x.shortfall(2, what), REFUSED);
            Rig.due("of one below", x.shortfall(-1, what), REFUSED);
        }
    }

    // Promise 10: "0, 1, 2 for X"
    private static void valuesAre0And1And2() {
        TrajectoryRails x = Rig.with("input a, b;", "given a is A then b is 1 at 1.");
        Rig.due("0", x.value(0, 0, 0), 0);
        Rig.due("1", x.value(0, 0, 1), 1);
        Rig.due("X", x.value(1, 0, 1), 2);
        Rig.due("X at the last", x.value(0, 1, 1), 2);
    }

    // Promise 10: "3 (at every time) if it is excluded"
    private static void valueOfAnExcludedOne() {
        TrajectoryRails x = Rig.with("input a, b; wire c = 1;", "given a is A at 5, a is 1 at 5, b is 0 then c is 1 at 11.");
        for (int time = 0; time <= 11; time++) {
            for (int node = 0; node < 3; node++) {
                Rig.due("node " + node + " at " + time, x.value(node, time, 0), 3);
            }
            Rig.due("c of the other at " + time, x.value(2, time, 1), 1);
        }
        Rig.due("at no other time", x.value(0, 12, 0), NONE);
        Rig.due("of no other node", x.value(3, 0, 0), NONE);
    }

    // Promise 10: "NONE if there is no such node, time or assignment, or no assertion"
    private static void valueOfNone() {
        TrajectoryRails x = Rig.with("input a, b;", "given a is A^B then b is 1 at 2.");
        Rig.due("the last of each", x.value(1, 2, 3), 2);
        Rig.due("node 2", x.value(2, 0, 0), NONE);
        Rig.due("time 3", x.value(0, 3, 0), NONE);
        Rig.due("assignment 4", x.value(0, 0, 4), NONE);
        for (int n : STRAYS) {
            Rig.due("node " + n, x.value(n, 0, 0), NONE);
            Rig.due("time " + n, x.value(0, n, 0), NONE);
            Rig.due("assignment " + n, x.value(0, 0, n), NONE);
            Rig.due("all of them " + n, x.value(n, n, n), NONE);
        }
        Rig.assertionDue(x, "given a is " + NINE + " then b is 1 at 11.");
        Rig.due("the greatest of each", x.value(1, 11, 511), 2);
        Rig.due("node 40", x.value(40, 0, 0), NONE);
        Rig.due("time 12", x.value(0, 12, 0), NONE);
        Rig.due("assignment 512", x.value(0, 0, 512), NONE);
        Rig.circuitDue(x, "input a, b;");
        Rig.due("no assertion", x.value(0, 0, 0), NONE);
        Rig.due("no assertion", x.value(1, 11, 511), NONE);
    }

    // Promise 11: "two assignments that differ in it alone, .. with different values of the node: 1, else 0"
    private static void mattersOfTwoThatDifferInItAlone() {
        TrajectoryRails x = Rig.with("input a, b, c;", "given a is " + NINE + ", b is A & I, c is A ^ A then a is 1 at 1.");
        for (int v = 0; v < 9; v++) {
            Rig.due("a by " + v, x.matters(0, 0, v), 1);
            Rig.due("b by " + v, x.matters(1, 0, v), v == 0 || v == 8 ? 1 : 0);
            Rig.due("c by " + v, x.matters(2, 0, v), 0);
            Rig.due("a at 1 by " + v, x.matters(0, 1, v), 0);
        }
        // One pair of 256 is enough, wherever it is.
        String and = "A&B&C&D&E&F&G&H&I";
        for (String claim : new String[] {"given a is " + and + " then b is 1.", "given a is " + and.replace("&", "|") + " then b is 1.",
            "given a is !A&B&!C&D&!E&F&!G&H&!I then b is 1.", "given a is 1 if " + and + " then b is 1.",
            "given a is 0 if " + and + " then b is 1."}) {
            Rig.assertionDue(x, claim);
            for (int v = 0; v < 9; v++) {
                Rig.due("a by " + v + " of " + claim, x.matters(0, 0, v), 1);
                Rig.due("b by " + v + " of " + claim, x.matters(1, 0, v), 0);
            }
        }
    }

    // Promise 11: "different values of the node": X is one of them.
    private static void mattersWithXAndWithout() {
        TrajectoryRails x = Rig.with("input a, b, c;", "given a is 0 if A, b is 1 if !A, c is A if 0 then a is 0.");
        Rig.due("X and 0", x.matters(0, 0, 0), 1);
        Rig.due("1 and X", x.matters(1, 0, 0), 1);
        Rig.due("X and X", x.matters(2, 0, 0), 0);
    }

    // Promise 11: "neither of them excluded"
    private static void mattersWithExcludedOnes() {
        TrajectoryRails x = Rig.with("input a, b;", "given a is A, a is 1, b is B then b is 1.");
        Rig.due("A: the one with 0 is excluded", x.matters(0, 0, 0), 0);
        Rig.due("B: those with A are not", x.matters(1, 0, 1), 1);
        Rig.assertionDue(x, "given a is A, a is 0, b is B then b is 1.");
        Rig.due("A: the one with 1 is excluded", x.matters(0, 0, 0), 0);
        Rig.assertionDue(x, "given a is A, a is 1, a is 0, b is B then b is 1.");
        Rig.due("both are", x.matters(0, 0, 0) + x.matters(1, 0, 1), 0);
        for (int v = 0; v < 9; v++) {
            char name = (char) ('A' + v);
            Rig.assertionDue(x, "given a is " + NINE + ", b is " + name + ", b is 1 then a is 1.");
            for (int other = 0; other < 9; other++) {
                Rig.due(name + " is 1: a by " + other, x.matters(0, 0, other), other == v ? 0 : 1);
            }
            Rig.assertionDue(x, "given a is " + NINE + ", b is " + name + ", b is 0 then a is 1.");
            for (int other = 0; other < 9; other++) {
                Rig.due(name + " is 0: a by " + other, x.matters(0, 0, other), other == v ? 0 : 1);
            }
        }
    }

    // Promise 11: "NONE as for value, and if there is no such variable"
    private static void mattersOfNone() {
        TrajectoryRails x = Rig.with("input a, b;", "given a is A^B then b is 1 at 2.");
        Rig.due("the last of each", x.matters(1, 2, 1), 0);
        Rig.due("node 2", x.matters(2, 0, 0), NONE);
        Rig.due("time 3", x.matters(0, 3, 0), NONE);
        Rig.due("variable 2", x.matters(0, 0, 2), NONE);
        for (int n : STRAYS) {
            Rig.due("node " + n, x.matters(n, 0, 0), NONE);
            Rig.due("time " + n, x.matters(0, n, 0), NONE);
            Rig.due("variable " + n, x.matters(0, 0, n), NONE);
            Rig.due("all of them " + n, x.matters(n, n, n), NONE);
        }
        Rig.assertionDue(x, "given a is " + NINE + " then b is 1 at 11.");
        Rig.due("the greatest of each", x.matters(1, 11, 8), 0);
        Rig.due("variable 9", x.matters(0, 0, 9), NONE);
        Rig.assertionDue(x, "given a is 1 then b is 1.");
        Rig.due("no variables", x.matters(0, 0, 0), NONE);
        Rig.circuitDue(x, "input a, b;");
        Rig.due("no assertion", x.matters(0, 0, 0), NONE);
    }

    // Promise 12: "How many nodes a node depends on, by whatever way, latches too"
    private static void coneOfNodes() {
        TrajectoryRails x = Rig.with("input a; wire b = 1; wire c = a & a & a; latch d = c; wire e = d | b; latch f = e;");
        int[] want = {0, 0, 1, 2, 4, 5};
        for (int node = 0; node < want.length; node++) {
            Rig.due("cone of " + node, x.cone(node), want[node]);
        }
        StringBuilder chain = new StringBuilder("input n0;");
        StringBuilder back = new StringBuilder();
        for (int n = 1; n < 40; n++) {
            chain.append(n % 2 == 0 ? "wire n" : "latch n").append(n).append("=n").append(n - 1).append(';');
            back.append(n % 2 == 0 ? "wire n" : "latch n").append(n - 1).append("=n").append(n).append(';');
        }
        x = Rig.with(chain.toString());
        TrajectoryRails y = Rig.with(back + "input n39;");
        for (int n = 0; n < 40; n++) {
            Rig.due("forward, cone of " + n, x.cone(n), n);
            Rig.due("back, cone of " + n, y.cone(n), 39 - n);
        }
    }

    // Promise 12: "itself only if it does"
    private static void coneWithItself() {
        TrajectoryRails x = Rig.with("latch a = a; latch b = 1; latch c = d; wire d = c; wire e = a; latch f = b;");
        int[] want = {1, 0, 2, 2, 1, 1};
        for (int node = 0; node < want.length; node++) {
            Rig.due("cone of " + node, x.cone(node), want[node]);
        }
        StringBuilder ring = new StringBuilder("latch n0=n39;");
        for (int n = 1; n < 40; n++) {
            ring.append("wire n").append(n).append("=n").append(n - 1).append(';');
        }
        x = Rig.with(ring.toString());
        for (int n = 0; n < 40; n++) {
            Rig.due("ring, cone of " + n, x.cone(n), 40);
        }
    }

    // Promise 12: "NONE if there is none"
    private static void coneOfNone() {
        TrajectoryRails x = new TrajectoryRails();
        Rig.due("new", x.cone(0), NONE);
        Rig.circuitDue(x, "input a, b;");
        Rig.due("the last", x.cone(1), 0);
        Rig.due("one more", x.cone(2), NONE);
        for (int node : STRAYS) {
            Rig.due("cone of " + node, x.cone(node), NONE);
        }
        Rig.circuitDue(x, "input a;");
        Rig.due("of the circuit before", x.cone(1), NONE);
        Rig.circuitDue(x, "");
        Rig.due("of no nodes", x.cone(0), NONE);
        Rig.circuitDue(x, "input a; wire b~");
        Rig.due("of a faulty one", x.cone(0), NONE);
    }

    // Promise 13: "What 0: nodes, 1: inputs, .. 7: the last time"
    private static void countsFrom0To7() {
        TrajectoryRails x = Rig.with("input a, b, c, d; wire e = a; wire f = a; latch g = a;",
                "given a is A, b is B if C, c is D ^ E, d is 1, e is 0 then f is 0, g is 1 at 3 to 9.");
        int[] want = {7, 4, 2, 1, 5, 5, 2, 9};
        for (int what = 0; what < want.length; what++) {
            Rig.due("count " + what, x.count(what), want[what]);
        }
        for (int what = 1; what <= 3; what++) {
            String item = new String[] {"", "input n", "wire n", "latch n"}[what];
            StringBuilder text = new StringBuilder();
            for (int n = 0; n < 40; n++) {
                text.append(item).append(n).append(what == 1 ? ";" : "=1;");
            }
            x = Rig.with(text.toString());
            for (int other = 1; other <= 3; other++) {
                Rig.due("forty of one kind, count " + other, x.count(other), other == what ? 40 : 0);
            }
        }
    }

    // Promise 13: "0 without them"
    private static void countsWithoutThem() {
        TrajectoryRails x = new TrajectoryRails();
        for (int what = 0; what <= 7; what++) {
            Rig.due("new, count " + what, x.count(what), 0);
        }
        Rig.circuitDue(x, "input a;");
        Rig.due("no wires", x.count(2), 0);
        Rig.due("no latches", x.count(3), 0);
        Rig.assertionDue(x, "given a is 1 then a is 1.");
        Rig.due("no variables", x.count(4), 0);
        Rig.assertionDue(x, "given a is A at 4 then a is 1.");
        Rig.due("there are some", x.count(4) + x.count(5) + x.count(6) + x.count(7), 7);
        Rig.circuitDue(x, "wire b = 1;");
        for (int what = 4; what <= 7; what++) {
            Rig.due("no assertion, count " + what, x.count(what), 0);
        }
        Rig.due("no inputs", x.count(1), 0);
    }

    // Promise 13: "REFUSED for others"
    private static void countsOfOthers() {
        TrajectoryRails none = new TrajectoryRails();
        TrajectoryRails x = Rig.with("input a;", "given a is 1 then a is 1.");
        Rig.due("8", x.count(8), REFUSED);
        Rig.due("9", x.count(9), REFUSED);
        Rig.due("8 of a new one", none.count(8), REFUSED);
        for (int what : STRAYS) {
            Rig.due("count " + what, x.count(what), REFUSED);
            Rig.due("count " + what + " of a new one", none.count(what), REFUSED);
        }
    }

    // "An object is used for at most 512 calls after it has been made"
    private static void theLastCall() {
        TrajectoryRails x = new TrajectoryRails();
        int calls = 0;
        for (int n = 0; n < 100; n++) {
            feedByte(x, ' ');
            calls++;
        }
        x.circuit();
        calls++;
        while (calls + 10 <= 512) {
            int[] c = Rig.words("input a,b;wire c=a; ", 0);
            x.feed(c[0], c[1], c[2], c[3], c[4]);
            Rig.due("circuit, call " + calls, x.circuit(), NONE);
            int[] g = Rig.words("given a is A then   ", 0);
            x.feed(g[0], g[1], g[2], g[3], g[4]);
            int[] t = Rig.words("c is A, c is 1 if B.", 0);
            Rig.due("feed, call " + calls, x.feed(t[0], t[1], t[2], t[3], t[4]), 40);
            Rig.due("assertion, call " + calls, x.assertion(), NONE);
            Rig.due("fails, call " + calls, x.fails(), 1);
            Rig.due("failing, call " + calls, x.failing(0), 1);
            Rig.due("shortfall, call " + calls, x.shortfall(1, 0), 1);
            Rig.due("value, call " + calls, x.value(2, 0, 2), 1);
            Rig.due("matters, call " + calls, x.matters(2, 0, 0), 1);
            calls += 10;
        }
        while (calls < 511) {
            x.count(7);
            calls++;
        }
        Rig.due("the 512th", x.fails(), 1);
    }
}
