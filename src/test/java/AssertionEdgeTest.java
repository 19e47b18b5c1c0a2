/** The bounds in the document's words on assertions and their faults; above each test its sentence. */
public final class AssertionEdgeTest {
    private static final int NONE = TrajectoryRails.NONE;
    private static final int REFUSED = TrajectoryRails.REFUSED;
    private static final String CIRCUIT = "input a, b; wire c = a & b;";

    public static void main(String[] args) {
        oneClauseInEachPart();
        noTokenBehindThePoint();
        clauseHasItsPartsInOrder();
        nameOfANode();
        timesFrom0To11();
        zerosBeforeANumber();
        secondNotLess();
        withoutAtTime0();
        withoutToThatTimeAlone();
        atMost24ClausesInEachPart();
        eachOf48Clauses();
        variablesInPlaceOfNames();
        atMost9Variables();
        variablesAsTheyComeFirst();
        atMost300Atoms();
        atMost10Deep();
        eachAssertionIsCountedAnew();
        firstTokenThatCanNotStand();
        firstByteThatBeginsNoToken();
        ownPlace();
        endIfSomethingIsMissing();
        emptyTape();
        faultLeavesTheAssertion();
        withoutACircuit();
        Rig.finish();
    }

    private static void assertion(String marked) {
        Rig.assertionDue(Rig.with(CIRCUIT), marked);
    }

    /** On either side of then, and in an is and in an if: where a BOOL may stand. */
    private static void bool(String marked) {
        assertion("given a is " + marked + " then b is 1.");
        assertion("given a is 1 if " + marked + " then b is 1.");
        assertion("given a is 1 then b is " + marked + ".");
        assertion("given a is 1 then b is 1 if " + marked + ".");
    }

    /** On either side of then: where the times of a clause may stand. */
    private static void times(String marked) {
        assertion("given a is 1 " + marked + " then b is 1.");
        assertion("given a is 1 if A " + marked + ", b is 1 then b is 1.");
        assertion("given a is 1 then b is 1 " + marked + ".");
        assertion("given a is 1 then b is 1 if A " + marked + ", b is 1.");
    }

    // "given CLAUSE { , CLAUSE } then CLAUSE { , CLAUSE } ."
    private static void oneClauseInEachPart() {
        assertion("given a is 1 then b is 1.");
        assertion("given ~then b is 1.");
        assertion("given a is 1 then ~.");
        assertion("given a is 1~.");
        assertion("given a is 1, ~then b is 1.");
        assertion("given a is 1 then b is 1,~.");
        assertion("given ~, a is 1 then b is 1.");
        assertion("given a is 1 then b is 1 ~then b is 1.");
        assertion("~then b is 1.");
        assertion("~a is 1 then b is 1.");
        assertion("given a is 1 then b is 1~;");
    }

    // "(the point ends it: no TOKEN may stand behind)"
    private static void noTokenBehindThePoint() {
        String[] tokens = {"a", "given", "then", "is", "A", "0", "1", "11", "=", "&", "|", "^", "!", "(", ")", ";", ",", "."};
        for (String token : tokens) {
            assertion("given a is 1 then b is 1.~" + token);
            assertion("given a is 1 then b is 1. \n ~" + token);
        }
        assertion("given a is 1 then b is 1.");
        assertion("given a is 1 then b is 1.\n \n");
        assertion("given a is 1 then b is 1.~#");
        assertion("given a is 1 then b is 1. ~abcdefghi");
        assertion("given a is 1 then b is 1. ~given a is 1 then b is 1.");
    }

    // "CLAUSE: NAME is BOOL [if BOOL] [at NUMBER [to NUMBER]]"
    private static void clauseHasItsPartsInOrder() {
        assertion("given a is A if B at 1 to 2 then b is A if B at 1 to 2.");
        assertion("given a ~= 1 then b is 1.");
        assertion("given a ~A then b is 1.");
        assertion("given a is ~if A then b is 1.");
        assertion("given a is 1 if ~at 1 then b is 1.");
        assertion("given a is 1 if A ~if B then b is 1.");
        assertion("given a is 1 at 1 ~if A then b is 1.");
        assertion("given a is 1 at 1 ~at 2 then b is 1.");
        assertion("given a is 1 ~to 2 then b is 1.");
        assertion("given a is 1 at 1 to 2 ~to 3 then b is 1.");
        assertion("given a is 1 at ~to 3 then b is 1.");
        assertion("given a is 1 at ~A then b is 1.");
        assertion("given a is 1 at 1 to ~then b is 1.");
    }

    // "NAME of a node"; a fault "unknown in an assertion: its own"
    private static void nameOfANode() {
        assertion("given a is 1, b is 1 then c is 1.");
        assertion("given ~d is 1 then c is 1.");
        assertion("given a is 1, ~aa is 1 then c is 1.");
        assertion("given a is 1 then ~d is 1.");
        assertion("given a is 1 then a is 1, ~d is 1.");
        assertion("given ~d # then");
        assertion("given ~A is 1 then c is 1.");
        assertion("given ~0 is 1 then c is 1.");
    }

    // "the numbers 0 to 11"
    private static void timesFrom0To11() {
        for (int time = 0; time <= 11; time++) {
            times("at " + time);
            times("at 0 to " + time);
            times("at " + time + " to 11");
            TrajectoryRails x = Rig.with(CIRCUIT, "given a is 1 at " + time + " then b is 1.");
            Rig.due("the last of at " + time, x.count(7), time);
            Rig.due("the value then", x.value(0, time, 0), 1);
            Rig.due("and no other time", x.value(0, time + 1, 0), NONE);
        }
        for (String late : new String[] {"12", "13", "20", "99", "100", "110", "999", "1000", "1100", "9999", "256", "4096"}) {
            times("at ~" + late);
            times("at 0 to ~" + late);
            times("at ~" + late + " to 11");
            times("at ~" + late + " to " + late);
        }
    }

    // "(zeros may stand before them)"
    private static void zerosBeforeANumber() {
        for (String zeros : new String[] {"00", "000", "0000", "05", "005", "0005", "011", "0011"}) {
            times("at " + zeros);
            times("at 0 to " + zeros);
            TrajectoryRails x = Rig.with(CIRCUIT, "given a is 1 at " + zeros + " then b is 1.");
            Rig.due("the last of at " + zeros, x.count(7), Integer.parseInt(zeros));
        }
        times("at ~012");
        times("at ~0012");
        times("at 0 to ~0012");
        times("at ~00011");
        times("at 03 to ~002");
        times("at 003 to 3");
    }

    // "the second not less"
    private static void secondNotLess() {
        for (int from = 0; from <= 11; from++) {
            for (int to = 0; to <= 11; to++) {
                times("at " + from + " to " + (to < from ? "~" : "") + to);
            }
        }
        TrajectoryRails x = Rig.with(CIRCUIT, "given a is 1 at 4 to 4, b is 0 at 2 to 5 then b is 1.");
        int[] want = {2, 2, 2, 2, 1, 2};
        int[] wantOfB = {2, 2, 0, 0, 0, 0};
        for (int time = 0; time <= 5; time++) {
            Rig.due("from 4 to 4, at " + time, x.value(0, time, 0), want[time]);
            Rig.due("from 2 to 5, at " + time, x.value(1, time, 0), wantOfB[time]);
        }
    }

    // "without: 0"
    private static void withoutAtTime0() {
        TrajectoryRails x = Rig.with(CIRCUIT, "given a is 1, b is 1 if 1 then c is 0.");
        Rig.due("the last", x.count(7), 0);
        Rig.due("a at 0", x.value(0, 0, 0), 1);
        Rig.due("no time 1", x.value(0, 1, 0), NONE);
        Rig.due("then at 0", x.shortfall(0, 1), 0);
        Rig.assertionDue(x, "given a is 1, b is 1 at 2 then c is 1 at 2.");
        Rig.due("a at 0 alone", x.value(0, 0, 0) * 100 + x.value(0, 1, 0) * 10 + x.value(0, 2, 0), 122);
    }

    // "(without to: that time alone)"
    private static void withoutToThatTimeAlone() {
        TrajectoryRails x = Rig.with(CIRCUIT, "given a is 1 at 1, b is 1 at 0 to 3 then c is 1 at 1.");
        Rig.due("before", x.value(0, 0, 0), 2);
        Rig.due("then", x.value(0, 1, 0), 1);
        Rig.due("behind", x.value(0, 2, 0), 2);
        Rig.due("the clause behind then is of that time alone", x.fails(), 0);
        Rig.assertionDue(x, "given a is 1 at 1, b is 1 at 0 to 3 then c is 1 at 2.");
        Rig.due("not of another", x.shortfall(0, 1), 2);
    }

    // "at most 24 clauses in each part"
    private static void atMost24ClausesInEachPart() {
        String clauses23 = "a is 1,".repeat(22) + "a is 1";
        String clauses24 = clauses23 + ",b is 0";
        assertion("given " + clauses23 + " then " + clauses23 + ".");
        assertion("given " + clauses24 + " then a is 1.");
        assertion("given " + clauses24 + ",~b is 0 then a is 1.");
        assertion("given a is 1 then " + clauses24 + ".");
        assertion("given a is 1 then " + clauses24 + ", ~b is 0.");
        assertion("given " + clauses24 + " then " + clauses24 + ".");
        assertion("given " + clauses24 + " then " + clauses24 + ",~a is 1.");
        assertion("given " + clauses24 + ",~");
        assertion("given " + clauses24 + " then " + clauses24 + ",~.");
        TrajectoryRails x = Rig.with(CIRCUIT, "given " + clauses24 + " then " + clauses24.replace("b is 0", "b is 1") + ".");
        Rig.due("given", x.count(5), 24);
        Rig.due("behind then", x.count(6), 24);
        Rig.due("the last one given", x.value(1, 0, 0), 0);
        Rig.due("the last one behind then", x.shortfall(0, 0), 23);
    }

    // "at most 24 clauses in each part": each of them says what its own words say.
    private static void eachOf48Clauses() {
        String[] said = {"A", "!A", "B", "A&B", "A|B", "A^B", "!B"};
        String[] when = {"B|C", "1", "C", "!C", "A"};
        StringBuilder inputs = new StringBuilder("input n0");
        StringBuilder given = new StringBuilder();
        StringBuilder then = new StringBuilder();
        for (int n = 0; n < 24; n++) {
            String clause = "n" + n + " is " + said[n % 7] + " if " + when[n % 5];
            inputs.append(n == 0 ? "" : ",n" + n);
            given.append(n == 0 ? "" : ",").append(clause);
            then.append(n == 0 ? "" : ",").append(n == 19 ? "n19 is 1 if !A&!B&C" : clause);
        }
        TrajectoryRails x = Rig.with(inputs + ";", "given " + given + " then " + then + ".");
        for (int n = 0; n < 8; n++) {
            int a = n >> 2;
            int b = n >> 1 & 1;
            int c = n & 1;
            int[] says = {a, 1 - a, b, a & b, a | b, a ^ b, 1 - b};
            int[] holds = {b | c, 1, c, 1 - c, a};
            for (int node = 0; node < 24; node++) {
                Rig.due("node " + node + " of " + n, x.value(node, 0, n), holds[node % 5] == 1 ? says[node % 7] : 2);
            }
            Rig.due("shortfall of " + n, x.shortfall(n, 0), n == 1 ? 19 : NONE);
        }
        Rig.due("fails", x.fails(), 1);
    }

    // "BOOL: as EXPR, but with VARIABLES in place of names"
    private static void variablesInPlaceOfNames() {
        bool("A");
        bool("!(A & B | 0 ^ 1)");
        bool("~a");
        bool("A & ~a");
        bool("~2");
        bool("~00");
        bool("~01");
        bool("~10");
        bool("A | ~11");
        bool("(~)");
        bool("A & ~| B");
        bool("A ~B");
        bool("(A ~0)");
        bool("A~)");
    }

    // "at most 9 different ones in an assertion"
    private static void atMost9Variables() {
        assertion("given a is A^B^C^D^E^F^G^H then b is I.");
        assertion("given a is A^B^C^D^E^F^G^H^I then b is ~J.");
        assertion("given a is A^B^C^D^E^F^G^H^I^~J then b is 1.");
        assertion("given a is A^B^C^D^E^F^G^H^I then b is A^B^C^D^E^F^G^H^I if I&A at 1.");
        assertion("given a is A^B if C^D, b is E if F then b is G if H, c is I if A.");
        assertion("given a is A^B if C^D, b is E if F then b is G if H, c is I if ~J.");
        assertion("given a is A^B if C^D, b is E if F then b is G if H, c is I if I, c is ~J.");
        assertion("given a is A^B^C^D^E^F^G^H^I if ~J ^ # then b is 1.");
        TrajectoryRails x = Rig.with(CIRCUIT, "given a is A^B^C^D^E^F^G^H^I then b is I&A.");
        Rig.due("nine", x.count(4), 9);
        Rig.due("assignment 511", x.value(0, 0, 511), 1);
        Rig.due("assignment 512", x.value(0, 0, 512), NONE);
        Rig.assertionDue(x, "given a is 0 then b is 0.");
        Rig.due("none", x.count(4), 0);
        Rig.due("assignment 0", x.value(0, 0, 0), 0);
        Rig.due("assignment 1", x.value(0, 0, 1), NONE);
    }

    // "numbered from 0 as they come first"
    private static void variablesAsTheyComeFirst() {
        TrajectoryRails x = Rig.with("input a, b, c, d;", "given a is Z, b is Y if X, c is X, d is Z then a is W if A, b is Y.");
        Rig.due("variables", x.count(4), 5);
        int[][] mattersOf = {{1, 0, 0, 0, 0}, {0, 1, 1, 0, 0}, {0, 0, 1, 0, 0}, {1, 0, 0, 0, 0}};
        for (int node = 0; node < 4; node++) {
            for (int v = 0; v < 5; v++) {
                Rig.due("node " + node + " by " + v, x.matters(node, 0, v), mattersOf[node][v]);
            }
        }
        Rig.due("variable 5", x.matters(0, 0, 5), NONE);
        Rig.due("Z is the highest bit", x.value(0, 0, 16), 1);
        Rig.due("X is in the middle", x.value(2, 0, 4), 1);
        // A is the lowest: a fails if A is 1 and W is not Z.
        Rig.due("A is the lowest bit", x.shortfall(16 + 4 + 8 + 1, 0), 0);
        Rig.due("and if it is 0", x.shortfall(16 + 4 + 8, 0), NONE);
    }

    // "at most 300 ATOMS in it"
    private static void atMost300Atoms() {
        String atoms298 = "A&".repeat(297) + "1";
        assertion("given a is " + atoms298 + " then b is 1&B.");
        assertion("given a is " + atoms298 + " then b is 1&B&~1.");
        assertion("given a is " + atoms298 + "&1 if 1 then b is ~1.");
        assertion("given a is " + atoms298 + " if 1 then b is 1.");
        assertion("given a is " + atoms298 + " if 1 then b is 1 if ~A.");
        assertion("given a is " + atoms298 + ", b is 1 then b is 1.");
        assertion("given a is " + atoms298 + ", b is 1, c is 0 then b is !~1.");
        assertion("given a is " + atoms298 + "&!(A) then b is (!(1)).");
        assertion("given a is " + atoms298 + "&!(A) then b is (!(1)) if ((~1)).");
        assertion("given a is 1 then b is " + atoms298 + "|A.");
        assertion("given a is 1 then b is " + atoms298 + "|A^~A.");
        assertion("given a is 1 then b is 1 if " + atoms298 + ".");
        assertion("given a is 1 then b is 1 if " + atoms298 + "&~B.");
        // Names and numbers of clauses are no ATOMS.
        assertion("given a is " + atoms298 + "&B at 11 to 11 then b is 1 at 10 to 11.");
    }

    // "BOOL: as EXPR": "! and brackets at most 10 deep"
    private static void atMost10Deep() {
        for (int nots = 0; nots <= 10; nots++) {
            int brackets = 10 - nots;
            String deep = "!".repeat(nots) + "(".repeat(brackets);
            String out = ")".repeat(brackets);
            bool(deep + "A" + out);
            bool(deep + "~!A" + out);
            bool(deep + "~(A)" + out);
            bool("(".repeat(brackets) + "!".repeat(nots) + "A" + out + "&!!!!!!!!!!B");
        }
        assertion("given a is !!!!!!!!!!A if !!!!!!!!!!A, a is ((((((((((A)))))))))) then b is !!!!!!!!!!A.");
    }

    // "in an assertion": not in all of them together.
    private static void eachAssertionIsCountedAnew() {
        TrajectoryRails x = Rig.with(CIRCUIT);
        for (int round = 0; round < 3; round++) {
            Rig.assertionDue(x, "given a is " + "A&".repeat(298) + "1 then b is 1.");
            Rig.assertionDue(x, "given a is " + "A&".repeat(300) + "~1 then b is 1.");
            Rig.assertionDue(x, "given a is A^B^C^D^E^F^G^H^I then b is 1.");
            Rig.assertionDue(x, "given a is J^K^L^M^N^O^P^Q^R then b is ~S.");
            Rig.assertionDue(x, "given a is J^K^L^M^N^O^P^Q^R then b is R.");
            Rig.assertionDue(x, "given " + "a is 1,".repeat(24) + "~a is 1");
            Rig.assertionDue(x, "given " + "a is 1,".repeat(23) + "a is 1 then b is 1 at 11.");
            Rig.due("the last", x.count(7), 11);
            Rig.assertionDue(x, "given a is 1 then b is 1.");
            Rig.due("the last then", x.count(7), 0);
        }
    }

    // "FAULT: the place of the first token that can not stand there"
    private static void firstTokenThatCanNotStand() {
        assertion("~input a; #");
        assertion("given ~given #");
        assertion("given a is ~) d is # 99");
        assertion("given a is 1 at 11 to ~10 at 12 #");
        assertion("given ~d is 1 then e is 1.");
        assertion("given a is (A ~then b is 1.");
    }

    // "or of the first byte that begins no token (of what is too long its first)"
    private static void firstByteThatBeginsNoToken() {
        assertion("~# given");
        assertion("given a~# d is 1");
        assertion("given a is 1 ~\u0080 then d is 1.");
        assertion("given a is ~ABCDEF then d is 1.");
        assertion("given ~abcdefghi is 1 then d is 1.");
        assertion("given a is 1 at ~00000 then d is 1.");
        assertion("~given_then a is 1");
        assertion("given a is A~_ then d is 1.");
    }

    // "(for one that is too much, too great, unknown in an assertion ..: its own)"
    private static void ownPlace() {
        assertion("given " + "a is 1 , ".repeat(24) + "~b is 1 then a is 1.");
        assertion("given a is A^B^C^D^E^F^G^H^I ^ ~J then b is 1.");
        assertion("given a is " + "1 & ".repeat(300) + "~1 then b is 1.");
        assertion("given a is ! ! ! ! ! ! ! ! ! ! ~! 1 then b is 1.");
        assertion("given a is 1 at ~12 then b is 1.");
        assertion("given a is 1 at 5 to ~4 then b is 1.");
        assertion("given a is 1 at 5 to ~12 then b is 1.");
        assertion("given a is 1 , ~d is 1 then b is 1.");
    }

    // "or of the end if something is missing"
    private static void endIfSomethingIsMissing() {
        String[] tokens = {"given", "a", "is", "A", "if", "!", "(", "A", "&", "B", "|", "1", "^", "0", ")", "at", "1",
            "to", "2", ",", "b", "is", "1", "then", "c", "is", "0", "at", "3", ",", "c", "is", "1", "if", "B", "."};
        for (String gap : new String[] {" ", "\n", "  "}) {
            StringBuilder text = new StringBuilder();
            for (String token : tokens) {
                text.append(token);
                boolean whole = token.equals(".");
                assertion(text + (whole ? "" : "~"));
                assertion(text + gap + (whole ? "" : "~"));
                text.append(gap);
            }
        }
    }

    // "of the end if something is missing": of the empty tape, too.
    private static void emptyTape() {
        TrajectoryRails x = Rig.with(CIRCUIT, "given a is A then b is 1.");
        Rig.due("assertion of nothing", x.assertion(), 0);
        Rig.due("the assertion stays", x.fails(), 2);
        Rig.assertionDue(x, " \n ~");
        Rig.due("and stays", x.fails(), 2);
    }

    // Promise 5: "Its FAULT if it has one: the assertion stays."
    private static void faultLeavesTheAssertion() {
        String[] faulty = {"~", "given ~d is 1 then a is 1.", "given a is C^D^E if F at 9, b is G then c is 0~",
            "given a is A then b is B.~.", "given a is 0, a is 1 then b is 0 at 11, ~", "~input z;",
            "given a is A^B^C^D^E^F^G^H^I then b is ~J.", "given a is 1 at ~12", "given " + "b is 0,".repeat(24) + "~b"};
        TrajectoryRails x = Rig.with(CIRCUIT, "given a is A, b is B, a is 1 if B then c is A at 0 to 2, c is B.");
        for (String text : faulty) {
            Rig.assertionDue(x, text);
            Rig.due("nodes", x.count(0), 3);
            Rig.due("variables", x.count(4), 2);
            Rig.due("given", x.count(5), 3);
            Rig.due("behind then", x.count(6), 2);
            Rig.due("the last", x.count(7), 2);
            Rig.due("fails", x.fails(), 3);
            Rig.due("excluded", x.excluded(), 1);
            Rig.due("failing", x.failing(1), 2);
            Rig.due("shortfall", x.shortfall(2, 0), 0);
            Rig.due("shortfall", x.shortfall(3, 1), 1);
            Rig.due("value", x.value(2, 0, 3), 1);
            Rig.due("value of an excluded one", x.value(2, 2, 1), 3);
            Rig.due("matters", x.matters(2, 0, 1), 1);
        }
        // One that never was stays away, too.
        TrajectoryRails y = Rig.with(CIRCUIT);
        Rig.assertionDue(y, "given a is 1 then b is 1~");
        Rig.due("no assertion", y.fails(), REFUSED);
        Rig.due("nor variables", y.count(4) + y.count(5) + y.count(6) + y.count(7), 0);
    }

    // Promise 5: "(Without a circuit no name is a node.)"
    private static void withoutACircuit() {
        TrajectoryRails x = new TrajectoryRails();
        Rig.assertionDue(x, "given ~a is 1 then b is 1.");
        Rig.assertionDue(x, "given~");
        Rig.circuitDue(x, "");
        Rig.assertionDue(x, "given ~a is 1 then b is 1.");
        Rig.circuitDue(x, "input a~");
        Rig.assertionDue(x, "given ~a is 1 then b is 1.");
        Rig.circuitDue(x, "input a, b;");
        Rig.assertionDue(x, "given a is 1 then b is 1.");
        Rig.circuitDue(x, "");
        Rig.assertionDue(x, "given ~a is 1 then b is 1.");
    }
}
