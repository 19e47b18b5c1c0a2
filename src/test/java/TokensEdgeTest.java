/** The bounds in the document's words on the tape and on tokens; above each test its sentence. */
public final class TokensEdgeTest {
    private static final int NONE = TrajectoryRails.NONE;
    private static final int REFUSED = TrajectoryRails.REFUSED;
    private static final int FULL = TrajectoryRails.FULL;
    private static final String[] WORDS = {"input", "wire", "latch", "given", "then", "is", "if", "at", "to"};

    public static void main(String[] args) {
        tapeIsEmptyAtFirst();
        tapeHasAtMost2000Bytes();
        textOf2000Bytes();
        readingEmptiesTheTape();
        otherCallsLeaveTheTape();
        tokensAreAsLongAsCanBe();
        blanksStandWhereOneLikes();
        noOtherByteIsABlank();
        nameBeginsWithASmallLetter();
        nameGoesOnWithLettersDigitsAndLine();
        nameHasAtMost8();
        namesDifferInAnyByte();
        wordsAreNoNames();
        wordsWithMoreOrLessAreNames();
        variableBeginsWithACapital();
        variableGoesOnWithCapitalsAndDigits();
        variableHasAtMost4();
        variablesDifferInAnyByte();
        numberHasAtMost4Digits();
        signsAreTheseTen();
        Rig.finish();
    }

    private static void circuit(String marked) {
        Rig.circuitDue(new TrajectoryRails(), marked);
    }

    private static void assertion(String marked) {
        Rig.assertionDue(Rig.with("input a, b;"), marked);
    }

    private static int feedByte(TrajectoryRails x, int b) {
        int word = b << 24 | b << 16 | b << 8 | b;
        return x.feed(word, word, word, word, word);
    }

    // "THE TAPE has bytes, none at first"
    private static void tapeIsEmptyAtFirst() {
        TrajectoryRails x = new TrajectoryRails();
        Rig.due("one byte at first", x.end(1), REFUSED);
        Rig.due("no byte at first", x.end(0), 0);
        Rig.due("feed at first", feedByte(x, ' '), 20);
        TrajectoryRails y = new TrajectoryRails();
        Rig.due("an empty circuit at first", y.circuit(), NONE);
        TrajectoryRails z = new TrajectoryRails();
        Rig.due("the end of the empty tape", z.assertion(), 0);
    }

    // "at most 2000"
    private static void tapeHasAtMost2000Bytes() {
        TrajectoryRails x = new TrajectoryRails();
        for (int n = 1; n <= 100; n++) {
            Rig.due("feed " + n, feedByte(x, ' '), 20 * n);
        }
        Rig.due("feed 101", feedByte(x, ';'), FULL);
        Rig.due("2000 are there", x.end(2000), 2000);
        for (int over = 19; over >= 1; over--) {
            Rig.due("cut", x.end(1980 + over), 1980 + over);
            Rig.due(1980 + over + " and 20", feedByte(x, ';'), FULL);
            Rig.due("FULL adds nothing", x.end(1980 + over + 1), REFUSED);
        }
        Rig.due("cut", x.end(1980), 1980);
        Rig.due("1980 and 20", feedByte(x, ' '), 2000);
        Rig.due("of what was FULL nothing came", x.circuit(), NONE);
    }

    // "at most 2000": the last of them is read too, and the end may stand behind it.
    private static void textOf2000Bytes() {
        circuit("input a" + " ".repeat(1992) + ";");
        circuit("input a" + " ".repeat(1993) + "~");
        circuit("input a" + " ".repeat(1992) + "~=");
        circuit("input a;" + " ".repeat(1991) + "~?");
        circuit("~" + ";".repeat(2000));
        circuit("~" + "a".repeat(2000));
        circuit("input a;" + " ".repeat(1984) + "input b;");
        circuit("input a;" + " ".repeat(1985) + "input b~");
        assertion("given a is 1 then a is 1" + " ".repeat(1975) + ".");
        assertion("given a is 1 then a is 1" + " ".repeat(1976) + "~");
        assertion("given a is 1 then a is 1." + " ".repeat(1974) + "~.");
    }

    // "calls that read it empty it"
    private static void readingEmptiesTheTape() {
        TrajectoryRails x = new TrajectoryRails();
        String[] texts = {"input a;", "input a, b", "input a; wire c = x;", "wire c = c;"};
        for (String text : texts) {
            Rig.circuit(x, text);
            Rig.due("behind circuit of " + text, x.end(1), REFUSED);
        }
        texts = new String[] {"given a is 1 then a is 1.", "given a is 1", "given x is 1 then a is 1."};
        for (String text : texts) {
            Rig.assertion(x, text);
            Rig.due("behind assertion of " + text, x.end(1), REFUSED);
        }
        Rig.due("circuit again", x.circuit(), NONE);
        Rig.due("is of the empty tape", x.count(0), 0);
        Rig.circuit(x, "input a, b, c;");
        Rig.due("feed begins anew", feedByte(x, ' '), 20);
        Rig.due("nothing comes back", x.circuit(), NONE);
        Rig.due("no nodes", x.count(0), 0);
        for (int n = 0; n < 100; n++) {
            feedByte(x, ' ');
        }
        x.assertion();
        Rig.due("a full tape is empty then", feedByte(x, ' '), 20);
    }

    // "calls that read it empty it": none but circuit and assertion read it.
    private static void otherCallsLeaveTheTape() {
        TrajectoryRails x = Rig.with("input a;", "given a is A then a is A.");
        Rig.put(x, "input b, c;");
        x.fails();
        x.excluded();
        x.failing(0);
        x.shortfall(0, 0);
        x.shortfall(0, 9);
        x.value(0, 0, 0);
        x.matters(0, 0, 0);
        x.cone(0);
        x.count(0);
        x.count(9);
        x.end(-1);
        x.end(12);
        Rig.due("it is there", x.circuit(), NONE);
        Rig.due("and whole", x.count(1), 2);
    }

    // "TOKENS of a text, each as long as can be"
    private static void tokensAreAsLongAsCanBe() {
        circuit("~inputa;");
        circuit("input inputa;");
        circuit("wire a=1;~wireb=1;");
        circuit("input a ~b;");
        circuit("input a ~1;");
        circuit("input a1;");
        circuit("wire a = ~11;");
        circuit("wire a = 1 ~1;");
        circuit("wire a = 1~b;");
        circuit("input a~B;");
        circuit("input a; wire b = !!!a&!a;");
        assertion("given a isA then b is 1.");
        assertion("given a ~is1 then b is 1.");
        assertion("given a is A~isb then b is 1.");
        assertion("given a is A ~B then b is 1.");
        assertion("given a is 1 at 1 ~1 then b is 1.");
        assertion("given a is 1 at 11 then b is 1.");
        assertion("given a is 1 at 1to 2then b is A1if B.");
        assertion("given a is 1 at 1 ~to2 then b is 1.");
        TrajectoryRails x = Rig.with("input a;", "given a is AB then a is A if B.");
        Rig.due("AB is one variable", x.count(4), 3);
    }

    // "with blanks (32) and byte 10 between where one likes"
    private static void blanksStandWhereOneLikes() {
        String[] circuit = {"input", " a", ",", "b", ";", "wire", " c", "=", "!", "(", "a", "&", "b", ")", "|",
            "0", "^", "1", ";", "latch", " d", "=", "c", ";"};
        String[] claim = {"given", " a", " is", " A", " if", " B", "&", "!", "(", "A", "^", "1", ")", "at", " 1",
            "to", " 2", ",", "b", " is", "(", "0", ")", "then", " c", " is", " 1", "."};
        String[] gaps = {"", " ", "\n", "  \n", "\n\n ", " ".repeat(20)};
        for (String gap : gaps) {
            TrajectoryRails x = new TrajectoryRails();
            Rig.circuitDue(x, gap + String.join(gap, circuit) + gap);
            Rig.due("nodes", x.count(0), 4);
            Rig.assertionDue(x, gap + String.join(gap, claim) + gap);
            Rig.due("the last time", x.count(7), 2);
        }
        circuit("~in put a;");
        circuit("~in\nput a;");
        assertion("given a is 1 at 1 ~2 then b is 1.");
    }

    // "blanks (32) and byte 10", and no other.
    private static void noOtherByteIsABlank() {
        for (int b = 0; b < 256; b++) {
            char c = (char) b;
            boolean blank = b == 32 || b == 10;
            Rig.due("behind a circuit byte " + b, Rig.circuit(new TrajectoryRails(), "input a;" + c),
                    blank ? NONE : 8);
            Rig.due("before a circuit byte " + b, Rig.circuit(new TrajectoryRails(), c + "input a;"),
                    blank ? NONE : 0);
            Rig.due("behind an assertion byte " + b, Rig.assertion(Rig.with("input a, b;"),
                    "given a is 1 then b is 1." + c), blank ? NONE : 25);
            Rig.due("before an assertion byte " + b, Rig.assertion(Rig.with("input a, b;"),
                    c + "given a is 1 then b is 1."), blank ? NONE : 0);
        }
        circuit("input a ~\tb;");
        circuit("input a ~\r\n;");
        circuit("input a ~\u00a0;");
        circuit("input a ~\u0000;");
        circuit("input a ~\u000b;");
        circuit("input a ~\u000c;");
    }

    // "NAME: a small letter"
    private static void nameBeginsWithASmallLetter() {
        for (int b = 0; b < 256; b++) {
            boolean small = b >= 'a' && b <= 'z';
            boolean blank = b == 32 || b == 10;
            Rig.due("input, byte " + b + " and x", Rig.circuit(new TrajectoryRails(), "input " + (char) b + "x;"),
                    small || blank ? NONE : 6);
            Rig.due("input, byte " + b, Rig.circuit(new TrajectoryRails(), "input " + (char) b + ";"),
                    small ? NONE : blank ? 7 : 6);
        }
    }

    // "then small letters, digits and _"
    private static void nameGoesOnWithLettersDigitsAndLine() {
        for (int b = 0; b < 256; b++) {
            boolean goesOn = b >= 'a' && b <= 'z' || b >= '0' && b <= '9' || b == '_';
            TrajectoryRails x = new TrajectoryRails();
            String text = "input x" + (char) b + "y;";
            int want = goesOn || b == ',' ? NONE : b == 32 || b == 10 || b == ';' ? 8 : 7;
            Rig.due("circuit of " + text, Rig.circuit(x, text), want);
            Rig.due("nodes of " + text, x.count(0), goesOn ? 1 : b == ',' ? 2 : 0);
        }
        circuit("input a_______, a0000000, a9_z, z__, a_0;");
    }

    // "at most 8"
    private static void nameHasAtMost8() {
        circuit("input abcdefg;");
        circuit("input abcdefgh;");
        circuit("input ~abcdefghi;");
        circuit("input ~" + "z".repeat(1000) + ";");
        circuit("input a1234567; wire a_______ = a1234567;");
        circuit("input ~a12345678;");
        circuit("input a, ~a________;");
        circuit("latch abcdefgh = abcdefgh;");
        circuit("latch abcdefgh = ~abcdefghi;");
        circuit("wire ~abcdefghi = 1;");
        circuit("~thentheni a;");
        TrajectoryRails x = Rig.with("input abcdefgh, a;");
        Rig.assertionDue(x, "given abcdefgh is 1 then a is 1, abcdefgh is 1.");
        Rig.assertionDue(x, "given ~abcdefghi is 1 then a is 1.");
        Rig.assertionDue(x, "given a is 1 then ~abcdefghi is 1.");
    }

    // "at most 8": all of them count.
    private static void namesDifferInAnyByte() {
        TrajectoryRails x = Rig.with("input a, aa, aaa, aaaa, aaaaa, aaaaaa, aaaaaaa, aaaaaaaa;");
        Rig.due("from one to eight", x.count(0), 8);
        x = Rig.with("input aaaaaaaa, baaaaaaa, abaaaaaa, aabaaaaa, aaabaaaa, aaaabaaa, aaaaabaa, aaaaaaba, aaaaaaab;");
        Rig.due("each byte", x.count(0), 9);
        Rig.assertionDue(x, "given aaaaaaab is 1 then baaaaaaa is 0.");
        Rig.due("the last one", x.value(8, 0, 0), 1);
        Rig.due("not the first one", x.value(0, 0, 0), 2);
        circuit("input aaaaaaaa; wire b = ~aaaaaaab;");
    }

    // "not the words input wire latch given then is if at to"
    private static void wordsAreNoNames() {
        for (String word : WORDS) {
            circuit("input ~" + word + ";");
            circuit("input a, ~" + word + ";");
            circuit("wire ~" + word + " = 1;");
            circuit("latch ~" + word + " = 1;");
            circuit("wire a = ~" + word + ";");
            circuit("latch a = 1 & ~" + word + ";");
            assertion("given ~" + word + " is 1 then a is 1.");
            assertion("given a is 1 then ~" + word + " is 1.");
            assertion("given a is ~" + word + " then a is 1.");
        }
    }

    // "not the words ...": what is longer or shorter than one is a name.
    private static void wordsWithMoreOrLessAreNames() {
        for (String word : WORDS) {
            String[] names = {word + "s", word + "1", word + "_", "x" + word, word.substring(0, word.length() - 1)};
            for (String name : names) {
                TrajectoryRails x = Rig.with("input " + name + "; wire z = " + name + ";");
                Rig.assertionDue(x, "given " + name + " is 1 then z is 1.");
                Rig.due("with the name " + name, x.fails(), 0);
            }
        }
    }

    // "VARIABLE: a capital letter"
    private static void variableBeginsWithACapital() {
        for (int b = 0; b < 256; b++) {
            boolean capital = b >= 'A' && b <= 'Z';
            TrajectoryRails x = Rig.with("input a;");
            String text = "given a is " + (char) b + "Q then a is 1.";
            boolean stands = capital || b == 32 || b == 10 || b == '!';
            int want = stands ? NONE : b == '0' || b == '1' ? 12 : b == '(' ? 14 : 11;
            Rig.due("assertion of " + text, Rig.assertion(x, text), want);
        }
        circuit("wire a = ~A;");
        circuit("input ~A;");
        assertion("given ~A is 1 then a is 1.");
    }

    // "then capital letters and digits"
    private static void variableGoesOnWithCapitalsAndDigits() {
        for (int b = 0; b < 256; b++) {
            boolean goesOn = b >= 'A' && b <= 'Z' || b >= '0' && b <= '9';
            boolean joins = b == '&' || b == '|' || b == '^';
            TrajectoryRails x = Rig.with("input a;");
            String text = "given a is Q" + (char) b + "R then a is 1.";
            int want = goesOn || joins ? NONE : b == 32 || b == 10 || b == ',' ? 13 : 12;
            Rig.due("assertion of " + text, Rig.assertion(x, text), want);
            Rig.due("variables of " + text, x.count(4), goesOn ? 1 : joins ? 2 : 0);
        }
    }

    // "at most 4"
    private static void variableHasAtMost4() {
        assertion("given a is ABC then b is ABCD.");
        assertion("given a is ~ABCDE then b is 1.");
        assertion("given a is A123 then b is Z999.");
        assertion("given a is ~A1234 then b is 1.");
        assertion("given a is 1 then b is 1 & ~ABCDE.");
        assertion("given a is 1 if ~" + "Q".repeat(500) + " then b is 1.");
    }

    // "at most 4": all of them count.
    private static void variablesDifferInAnyByte() {
        TrajectoryRails x = Rig.with("input a;", "given a is A^AA^AAA^AAAA^BAAA^ABAA^AABA^AAAB^A1 then a is AAAA.");
        Rig.due("variables", x.count(4), 9);
        Rig.assertionDue(x, "given a is AAAA^AAAA^AAA^AAA then a is 0.");
        Rig.due("the same ones", x.count(4), 2);
        Rig.due("are the same", x.fails(), 0);
    }

    // "NUMBER: digits, at most 4"
    private static void numberHasAtMost4Digits() {
        String[] fine = {"0", "00", "000", "0000", "1", "01", "001", "0001", "11", "011", "0011"};
        for (String number : fine) {
            assertion("given a is 1 at " + number + " then b is 1.");
            assertion("given a is 1 at 0 to " + number + " then b is 1.");
        }
        String[] faulty = {"00000", "00001", "00011", "10000", "99999", "4294967296", "0".repeat(300)};
        for (String number : faulty) {
            assertion("given a is 1 at ~" + number + " then b is 1.");
            assertion("given a is 1 at 0 to ~" + number + " then b is 1.");
            circuit("wire a = ~" + number + ";");
        }
        assertion("given a is 1 at 0~a then b is 1.");
        assertion("given a is 1 at 0~_ then b is 1.");
        assertion("given a is 1 at 0~A then b is 1.");
    }

    // "the signs = & | ^ ! ( ) ; , ."
    private static void signsAreTheseTen() {
        circuit("input a,b;wire c=!(a&b|a^b);");
        assertion("given a is !(A&B|A^B),b is 1 then a is 1.");
        for (int b = 33; b < 256; b++) {
            char c = (char) b;
            boolean joins = c == '&' || c == '|' || c == '^';
            boolean ofName = c >= 'a' && c <= 'z' || c >= '0' && c <= '9' || c == '_';
            Rig.due("between two operands " + c, Rig.circuit(new TrajectoryRails(), "wire x = y" + c + "y;input y;"),
                    joins ? NONE : ofName ? 9 : c == ';' ? 11 : 10);
            Rig.due("before an operand " + c, Rig.circuit(new TrajectoryRails(), "wire x = " + c + "y;input y;"),
                    c == '!' ? NONE : c == '(' ? 11 : c == '0' || c == '1' ? 10 : 9);
            Rig.due("behind an operand " + c, Rig.circuit(new TrajectoryRails(), "wire x = (1" + c + ";"),
                    c == ')' ? NONE : joins ? 12 : c >= '0' && c <= '9' ? 10 : 11);
            Rig.due("before a formula " + c, Rig.circuit(new TrajectoryRails(), "wire x " + c + " 1;"),
                    c == '=' ? NONE : 7);
        }
    }
}
