/** Promise 5, assertion, and the second half of 13, count. */
public final class AssertionTest {
    private static final int NONE = TrajectoryRails.NONE;
    private static final int REFUSED = TrajectoryRails.REFUSED;
    private static final String CIRCUIT = "input a, b; wire c = a & b; latch abcdefgh = c;";

    public static void main(String[] args) {
        sound();
        tokens();
        grammar();
        times();
        limits();
        everyByte();
        oneObjectForAll();
        withoutCircuit();
        faultLeavesAssertion();
        counts();
        Rig.finish();
    }

    private static void due(String text, int want) {
        TrajectoryRails x = Rig.with(CIRCUIT);
        Rig.due("assertion of " + text, Rig.assertion(x, text), want);
        Rig.due("assertion is there of " + text, x.fails() == REFUSED ? 0 : 1, want == NONE ? 1 : 0);
    }

    private static void sound() {
        due("given a is 1 then b is 0.", NONE);
        due("given a is A then b is B.\n ", NONE);
        due("given a is A if B at 0 to 11, a is !A, abcdefgh is (A^B)|C&0 then c is 1 if 0, c is 0 at 3.", NONE);
        due("given\na\nis\n1\nthen\nb\nis\n0\n.", NONE);
        due("given a is A1B2then b is(1).", NONE);
        due("given a is 1if 0at 1to 2then b is 0.", NONE);
        due("given a is ABCD then b is Z999.", NONE);
    }

    private static void tokens() {
        due("given a is ABCDE then b is 0.", 11);
        due("given a is A_B then b is 0.", 12);
        due("given a is Ab then b is 0.", 12);
        due("given a is 00 then b is 0.", 11);
        due("given a is 2 then b is 0.", 11);
        due("given a is 00001 then b is 0.", 11);
        due("given abcdefghi is 1 then b is 0.", 6);
        due("given a is 1 then b is 0.#", 25);
        due("given a is 1 then b is 0 #", 25);
        due("#", 0);
        due("  \u0000", 2);
        due("given a is \u00c1 then b is 0.", 11);
    }

    private static void grammar() {
        due("", 0);
        due("   ", 3);
        due("then", 0);
        due("given", 5);
        due("given ", 6);
        due("given then", 6);
        due("given a", 7);
        due("given a then", 8);
        due("given a = 1", 8);
        due("given a is", 10);
        due("given a is then", 11);
        due("given a is 1", 12);
        due("given a is 1.", 12);
        due("given a is 1;", 12);
        due("given a is 1,", 13);
        due("given a is 1, then b is 0.", 14);
        due("given a is 1 b is 1", 13);
        due("given a is 1 then", 17);
        due("given a is 1 then .", 18);
        due("given a is 1 then b is 0", 24);
        due("given a is 1 then b is 0 ", 25);
        due("given a is 1 then b is 0 then", 25);
        due("given a is 1 then b is 0,.", 25);
        due("given a is 1 then b is 0..", 25);
        due("given a is 1 then b is 0. given", 26);
        due("given a is b then b is 0.", 11);
        due("given A is 1 then b is 0.", 6);
        due("given is is 1 then b is 0.", 6);
        due("given d is 1 then b is 0.", 6);
        due("given a is 1 then d is 0.", 18);
        due("given a is 1 then d # 0.", 18);
        due("given a is 1 if then b is 0.", 16);
        due("given a is 1 if 1 if 1 then b is 0.", 18);
        due("given a is 1 at 1 if 1 then b is 0.", 18);
        due("given a is 1 to 1 then b is 0.", 13);
        due("given a is 1 at 1 at 1 then b is 0.", 18);
        due("given a is 1 at 1 to 2 to 3 then b is 0.", 23);
        due("given a is 1 at then b is 0.", 16);
        due("given a is 1 at A then b is 0.", 16);
        due("given a is 1 at 1 to then b is 0.", 21);
        due("given a is (A then b is 0.", 14);
        due("given a is A) then b is 0.", 12);
        due("given a is A B then b is 0.", 13);
        due("given a is !A & (B | !(0 ^ C)) if !!D then b is 0.", NONE);
        due(CIRCUIT, 0);
    }

    private static void times() {
        due("given a is 1 at 11 then b is 0 at 0.", NONE);
        due("given a is 1 at 0011 then b is 0 at 0000.", NONE);
        due("given a is 1 at 00011 then b is 0.", 16);
        due("given a is 1 at 12 then b is 0.", 16);
        due("given a is 1 at 0012 then b is 0.", 16);
        due("given a is 1 at 9999 then b is 0.", 16);
        due("given a is 1 at 3 to 3 then b is 0.", NONE);
        due("given a is 1 at 3 to 2 then b is 0.", 21);
        due("given a is 1 at 3 to 002 then b is 0.", 21);
        due("given a is 1 at 0 to 12 then b is 0.", 21);
        due("given a is 1 at 12 to 11 then b is 0.", 16);
        due("given a is 1 at 9 to 10 then b is 0.", NONE);
        due("given a is 1 at 11 to 11 then b is 0 at 11 to 10.", 46);
    }

    private static void limits() {
        String clauses24 = "a is 1,".repeat(23) + "a is 1";
        due("given " + clauses24 + " then " + clauses24 + ".", NONE);
        due("given " + clauses24 + ",a is 1 then a is 1.", 6 + 167 + 1);
        due("given " + clauses24 + ", zz is 1 then a is 1.", 6 + 167 + 2);
        due("given a is 1 then " + clauses24 + ",a is 1.", 18 + 167 + 1);

        due("given a is A^B^C^D^E^F^G^H^I^A^I then b is B.", NONE);
        due("given a is A^B^C^D^E^F^G^H^I^J then b is B.", 29);
        due("given a is A^B^C^D^E^F^G^H if I then b is J.", 42);
        due("given a is A^B^C^D^E^F^G^H if I then b is 0 if H&J.", 49);
        due("given a is A^A1^A2^B^B1^B2^C^C1^C2^D then b is 0.", 35);

        String atoms299 = "A&".repeat(298) + "1";
        due("given a is " + atoms299 + " then b is 1.", NONE);
        due("given a is " + atoms299 + " then b is 1 if A.", 11 + 597 + 16);
        due("given a is " + atoms299 + " then b is !(1).", NONE);
        due("given a is " + atoms299 + "|B if 1 then b is 1.", 11 + 597 + 6);

        due("given a is " + "(".repeat(10) + "1" + ")".repeat(10) + " then b is 0.", NONE);
        due("given a is " + "(".repeat(11) + "1" + ")".repeat(11) + " then b is 0.", 21);
        due("given a is 1 if " + "!".repeat(11) + "1 then b is 0.", 26);
        due("given a is 1 then b is " + "!(".repeat(5) + "!1", 33);
    }

    private static void everyByte() {
        for (int b = 0; b < 256; b++) {
            String c = String.valueOf((char) b);
            boolean blank = b == ' ' || b == 10;
            boolean digit = b >= '0' && b <= '9';
            boolean goesOn = b >= 'A' && b <= 'Z' || digit || blank;
            boolean needsMore = "&|^,".indexOf(b) >= 0;
            due("given a is A" + c + " then b is 0.", goesOn ? NONE : needsMore ? 14 : 12);
            due("given a is 1 at 0" + c + " then b is 0.", digit || blank ? NONE : b == ',' ? 19 : 17);
            boolean begins = b >= 'A' && b <= 'Z' || b == '0' || b == '1' || b == '!' || b == '(';
            due("given a is " + c, blank || begins ? 12 : 11);
        }
    }

    private static void oneObjectForAll() {
        TrajectoryRails x = Rig.with(CIRCUIT);
        String many = "given a is A&B&C&D if D|E, b is (A^B)&(C^D)&E if !A then c is !(!(A^B)|C)&D if E.";
        String long200 = "given a is " + "A&".repeat(200) + "A then b is A.";
        for (int round = 0; round < 3; round++) {
            Rig.due("many", Rig.assertion(x, many), NONE);
            Rig.due("variables of many", x.count(4), 5);
            Rig.due("many, cut", Rig.assertion(x, many.substring(0, 68)), 68);
            Rig.due("few", Rig.assertion(x, "given a is V, b is W then a is V, b is W."), NONE);
            Rig.due("few fail", x.fails(), 0);
            Rig.due("value of few", x.value(2, 0, 3), 1);
            Rig.due("long", Rig.assertion(x, long200), NONE);
            Rig.due("long, cut", Rig.assertion(x, long200.substring(0, 410)), 410);
            Rig.due("long fails", x.fails(), 2);
            Rig.due("late", Rig.assertion(x, "given a is 1 at 11 then a is 1 at 11."), NONE);
            Rig.due("early", Rig.assertion(x, "given b is 1 at 11 then a is 1 at 11."), NONE);
            Rig.due("nothing is left of late", x.value(0, 11, 0), 2);
        }
    }

    private static void withoutCircuit() {
        TrajectoryRails x = new TrajectoryRails();
        Rig.due("no circuit", Rig.assertion(x, "given a is 1 then a is 1."), 6);
        Rig.due("no circuit, no name", Rig.assertion(x, "given 1"), 6);
        Rig.due("no assertion", x.fails(), REFUSED);
    }

    private static void faultLeavesAssertion() {
        TrajectoryRails x = Rig.with(CIRCUIT, "given a is P, b is Q then c is P & Q, c is P at 4.");
        Rig.due("fault", Rig.assertion(x, "given a is A^B^C at 7, b is 0 then c is 1, b is X at 9, a"), 57);
        Rig.due("variables", x.count(4), 2);
        Rig.due("given", x.count(5), 2);
        Rig.due("then", x.count(6), 2);
        Rig.due("last", x.count(7), 4);
        Rig.due("fails", x.fails(), 4);
        Rig.due("value", x.value(2, 0, 3), 1);
        Rig.due("shortfall", x.shortfall(3, 0), 1);
        Rig.due("shortfall", x.shortfall(3, 1), 4);
        Rig.due("a sound one", Rig.assertion(x, "given a is 0 then c is 0."), NONE);
        Rig.due("takes its place", x.fails(), 0);
        Rig.due("variables then", x.count(4), 0);
        Rig.due("last then", x.count(7), 0);
        Rig.due("behind it", Rig.assertion(x, "given a is P, b is Q then c is P & Q, c is P at 4."), NONE);
        Rig.due("fails again", x.fails(), 4);
    }

    private static void counts() {
        TrajectoryRails x = Rig.with(CIRCUIT, "given a is P, b is Q if P at 2 then c is R, c is 0, c is 1 at 1 to 3.");
        int[] want = {4, 2, 1, 1, 3, 2, 3, 3};
        for (int what = 0; what < want.length; what++) {
            Rig.due("count " + what, x.count(what), want[what]);
        }
        Rig.due("count 8", x.count(8), REFUSED);
        Rig.assertion(x, "given a is 1 if 0 at 11 then b is 1.");
        Rig.due("the last time, given if 0", x.count(7), 11);
        String clauses24 = "a is 1,".repeat(23) + "a is 1";
        Rig.assertion(x, "given " + clauses24 + " then " + clauses24 + ".");
        Rig.due("24 given", x.count(5), 24);
        Rig.due("24 behind then", x.count(6), 24);
    }
}
