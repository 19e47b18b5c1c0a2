import java.util.Random;

/** Runs of 512 calls in any order, with stray numbers and bytes, on the class and on the oracle. */
public final class AnyOrderTest {
    private static final int CALLS = 512;
    private static final int[] STRAYS = {-1, -2, 0, 1, 2, 3, 8, 9, 11, 12, 39, 40, 63, 64, 511, 512, 1999, 2000, 2001,
        Integer.MIN_VALUE, Integer.MAX_VALUE};
    private static final String[] CIRCUITS = {"input a, b; wire c = a & b; latch d = c | d;", "wire a = b; latch b = !a;",
        "input a;", "wire c = 1; wire b = c ^ 0; wire a = b | c;", "latch a = !a; input b, c;", ""};
    private static final String[] ASSERTIONS = {"given a is A then b is A.",
        "given a is A at 0 to 3, b is B if A then c is A & B at 2.",
        "given a is A^B^C^D^E^F^G, a is H then b is I at 4.", "given b is 1 then a is 0 at 1 to 3.",
        "given a is A if B at 1 then a is 1 if A at 2."};
    private static final String[] BITS = {"input ", "wire ", "latch ", "given ", "then ", " is ", " if ", " at ", " to ",
        "=", "&", "|", "^", "!", "(", ")", ";", ",", ".", "0", "1", "12", "a", "b", "A", "#", "\n", " "};

    private final Random random;
    private final String trail;
    private final TrajectoryRails rails = new TrajectoryRails();
    private final Oracle oracle = new Oracle();
    private int calls;

    private AnyOrderTest(long seed) {
        random = new Random(seed);
        trail = "seed " + seed + ": ";
    }

    public static void main(String[] args) {
        long first = args.length > 0 ? Long.parseLong(args[0]) : 1;
        int many = args.length > 1 ? Integer.parseInt(args[1]) : 500;
        for (int i = 0; i < many; i++) {
            new AnyOrderTest(first + i).run();
        }
        Rig.finish();
    }

    private void run() {
        while (calls < CALLS) {
            if (random.nextInt(10) == 0) {
                giveText();
            } else {
                call(random.nextInt(11), number(), number(), number());
            }
        }
    }

    private void due(String call, int got, int want) {
        calls++;
        if (calls <= CALLS) {
            Rig.due(trail + call, got, want);
        }
    }

    private int number() {
        return random.nextBoolean() ? STRAYS[random.nextInt(STRAYS.length)] : random.nextInt(6);
    }

    private static String oneOf(String[] texts, Random random) {
        return texts[random.nextInt(texts.length)];
    }

    /** A sound text that is read, or what is left on the tape for a later call. */
    private void giveText() {
        int kind = random.nextInt(4);
        if (kind == 0) {
            put(oneOf(CIRCUITS, random));
            due("circuit", rails.circuit(), oracle.circuit());
        } else if (kind == 1) {
            put(oneOf(ASSERTIONS, random));
            due("assertion", rails.assertion(), oracle.assertion());
        } else if (kind == 2) {
            StringBuilder bits = new StringBuilder();
            for (int i = random.nextInt(12); i > 0; i--) {
                bits.append(oneOf(BITS, random));
            }
            put(bits.toString());
        } else {
            feed(random.ints(5).toArray());
        }
    }

    private void put(String text) {
        due("end(0)", rails.end(0), oracle.end(0));
        for (int from = 0; from < text.length(); from += 20) {
            feed(Rig.words(text, from));
        }
        due("end", rails.end(text.length()), oracle.end(text.length()));
    }

    private void feed(int[] w) {
        due("feed", rails.feed(w[0], w[1], w[2], w[3], w[4]), oracle.feed(w));
    }

    private void call(int kind, int a, int b, int c) {
        String with = "(" + a + ", " + b + ", " + c + ")";
        switch (kind) {
            case 0 -> due("end" + with, rails.end(a), oracle.end(a));
            case 1 -> due("assertion", rails.assertion(), oracle.assertion());
            case 2 -> due("fails", rails.fails(), oracle.fails());
            case 3 -> due("excluded", rails.excluded(), oracle.excluded());
            case 4 -> due("failing" + with, rails.failing(a), oracle.failing(a));
            case 5 -> due("shortfall" + with, rails.shortfall(a, b), oracle.shortfall(a, b));
            case 6 -> due("value" + with, rails.value(a, b, c), oracle.value(a, b, c));
            case 7 -> due("matters" + with, rails.matters(a, b, c), oracle.matters(a, b, c));
            case 8 -> due("cone" + with, rails.cone(a), oracle.cone(a));
            case 9 -> due("count" + with, rails.count(a), oracle.count(a));
            default -> feed(new int[] {a, b, c, a, b});
        }
    }
}
