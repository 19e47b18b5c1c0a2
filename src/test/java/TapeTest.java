/** Promises 1 to 3: a new object, feed and end. */
public final class TapeTest {
    private static final int REFUSED = TrajectoryRails.REFUSED;
    private static final int NONE = TrajectoryRails.NONE;
    private static final int FULL = TrajectoryRails.FULL;

    public static void main(String[] args) {
        newObject();
        bytesComeHighestFirst();
        feedCountsAndRefuses();
        fullLeavesTheTape();
        endCuts();
        readingEmptiesTheTape();
        Rig.finish();
    }

    private static void newObject() {
        TrajectoryRails x = new TrajectoryRails();
        for (int what = 0; what <= 7; what++) {
            Rig.due("new: count " + what, x.count(what), 0);
        }
        Rig.due("new: fails", x.fails(), REFUSED);
        Rig.due("new: excluded", x.excluded(), REFUSED);
        Rig.due("new: failing", x.failing(0), NONE);
        Rig.due("new: shortfall", x.shortfall(0, 0), NONE);
        Rig.due("new: value", x.value(0, 0, 0), NONE);
        Rig.due("new: matters", x.matters(0, 0, 0), NONE);
        Rig.due("new: cone", x.cone(0), NONE);
        Rig.due("new: empty tape as assertion", x.assertion(), 0);
        Rig.due("new: no name is a node", Rig.assertion(x, "given a is 1 then a is 1."), 6);
        Rig.due("new: empty tape", x.end(0), 0);
        Rig.due("new: nothing to keep", x.end(1), REFUSED);
        TrajectoryRails y = Rig.with("input a;");
        Rig.due("another object is its own", x.count(0), 0);
        Rig.due("one object", y.count(0), 1);
    }

    private static void bytesComeHighestFirst() {
        TrajectoryRails x = new TrajectoryRails();
        Rig.due("feed", x.feed(0x696e7075, 0x74206162, 0x3b776972, 0x65206320, 0x3d216162), 20);
        Rig.due("feed", x.feed(0x3b202020, 0x20202020, 0x0a0a0a0a, 0x20202020, 0x20202020), 40);
        Rig.due("input ab;wire c =!ab;", x.circuit(), NONE);
        Rig.due("nodes", x.count(0), 2);
        Rig.due("cone of c", x.cone(1), 1);
        int[] foreign = {-1, 0x80808080, 0, 0x7f7f7f7f, 0x09090909, 0x0d0d0d0d};
        for (int word : foreign) {
            x.feed(0x20202020, word, word, word, word);
            Rig.due("bytes that begin no token " + word, x.circuit(), 4);
        }
    }

    private static void feedCountsAndRefuses() {
        TrajectoryRails x = new TrajectoryRails();
        for (int i = 1; i <= 100; i++) {
            Rig.due("feed " + i, x.feed(0x20202020, 0x20202020, 0x20202020, 0x20202020, 0x20202020), 20 * i);
        }
        Rig.due("feed 101", x.feed(0, 0, 0, 0, 0), FULL);
        Rig.due("feed 102", x.feed(0, 0, 0, 0, 0), FULL);
        Rig.due("end 2000", x.end(2000), 2000);
        Rig.due("end 2001", x.end(2001), REFUSED);
        Rig.due("blanks are a circuit", x.circuit(), NONE);
        Rig.due("feed behind a reading", x.feed(0, 0, 0, 0, 0), 20);
    }

    private static void fullLeavesTheTape() {
        TrajectoryRails x = new TrajectoryRails();
        for (int i = 0; i < 100; i++) {
            x.feed(0x20202020, 0x20202020, 0x20202020, 0x20202020, 0x20202020);
        }
        Rig.due("end 1981", x.end(1981), 1981);
        Rig.due("1981 and 20 are too many", x.feed(0x23232323, 0, 0, 0, 0), FULL);
        Rig.due("still 1981", x.end(1982), REFUSED);
        Rig.due("end 1980", x.end(1980), 1980);
        Rig.due("1980 and 20 are not", x.feed(0x20202020, 0x20202020, 0x20202020, 0x20202020, 0x20202023), 2000);
        Rig.due("the last byte", x.circuit(), 1999);
    }

    private static void endCuts() {
        TrajectoryRails x = new TrajectoryRails();
        x.feed(0x696e7075, 0x7420613b, 0x23232323, 0x23232323, 0x23232323);
        Rig.due("end below 0", x.end(-1), REFUSED);
        Rig.due("end far below 0", x.end(Integer.MIN_VALUE), REFUSED);
        Rig.due("end beyond", x.end(21), REFUSED);
        Rig.due("end far beyond", x.end(Integer.MAX_VALUE), REFUSED);
        Rig.due("end at all", x.end(20), 20);
        Rig.due("end 8", x.end(8), 8);
        Rig.due("end 9 then", x.end(9), REFUSED);
        Rig.due("feed goes on there", x.feed(0x696e7075, 0x7420623b, 0x20202020, 0x20202020, 0x20202020), 28);
        Rig.due("both", x.circuit(), NONE);
        Rig.due("both nodes", x.count(1), 2);
        x.feed(0x23232323, 0, 0, 0, 0);
        Rig.due("end 0", x.end(0), 0);
        Rig.due("an empty tape is a circuit", x.circuit(), NONE);
        Rig.due("without nodes", x.count(0), 0);
    }

    private static void readingEmptiesTheTape() {
        TrajectoryRails x = new TrajectoryRails();
        Rig.circuit(x, "input a;");
        Rig.due("behind a circuit", x.end(1), REFUSED);
        Rig.circuit(x, "input");
        Rig.due("behind a faulty circuit", x.end(1), REFUSED);
        Rig.assertion(x, "given a is 1 then a is 1.");
        Rig.due("behind an assertion", x.end(1), REFUSED);
        Rig.assertion(x, "given");
        Rig.due("behind a faulty assertion", x.end(1), REFUSED);
        Rig.put(x, "given");
        x.fails();
        x.count(0);
        x.value(0, 0, 0);
        Rig.due("others do not read it", x.end(5), 5);
    }
}
