import java.util.Random;

/** Random texts, sound and damaged, on the class and on the oracle: the answers must agree. */
public final class AgainstOracleTest {
    private static final String[] BITS = {
        "input", "wire", "latch", "given", "then", "is", "if", "at", "to", "=", "&", "|", "^", "!",
        "(", ")", ";", ",", ".", "0", "1", "2", "11", "12", "0011", "00011", "a", "b", "n1", "zz",
        "A", "B", "Q7", "ABCD", "ABCDE", "abcdefgh", "abcdefghi", "_", "#", "\n", " ", "\t", "\u00e9"
    };

    private final Random random;
    private TrajectoryRails rails = new TrajectoryRails();
    private Oracle oracle = new Oracle();
    private int nodes;
    private String trail = "";

    private AgainstOracleTest(long seed) {
        random = new Random(seed);
    }

    public static void main(String[] args) {
        long first = args.length > 0 ? Long.parseLong(args[0]) : 1;
        int many = args.length > 1 ? Integer.parseInt(args[1]) : 400;
        for (int i = 0; i < many; i++) {
            new AgainstOracleTest(first + i).run();
        }
        Rig.finish();
    }

    private boolean chance(int percent) {
        return random.nextInt(100) < percent;
    }

    private void run() {
        for (int i = 0; i < 4; i++) {
            give(circuitText(), true);
            for (int j = 0; j < 4; j++) {
                give(assertionText(), false);
                askAll();
            }
        }
    }

    private void give(String sound, boolean circuit) {
        String text = chance(35) ? damage(sound) : sound;
        if (text.length() > 2000) {
            text = text.substring(0, 2000);
        }
        for (int from = 0; from < text.length(); from += 20) {
            int[] w = Rig.words(text, from);
            Rig.due("feed", rails.feed(w[0], w[1], w[2], w[3], w[4]), oracle.feed(w));
        }
        Rig.due("end", rails.end(text.length()), oracle.end(text.length()));
        trail = (circuit ? "circuit of " : "assertion of ") + text;
        if (circuit) {
            Rig.due(trail, rails.circuit(), oracle.circuit());
        } else {
            Rig.due(trail, rails.assertion(), oracle.assertion());
        }
    }

    private String damage(String text) {
        StringBuilder out = new StringBuilder(text);
        int times = 1 + random.nextInt(2);
        for (int i = 0; i < times; i++) {
            int at = random.nextInt(out.length() + 1);
            int kind = random.nextInt(3);
            if (kind == 0) {
                out.insert(at, BITS[random.nextInt(BITS.length)]);
            } else if (kind == 1) {
                out.delete(at, Math.min(out.length(), at + 1 + random.nextInt(3)));
            } else {
                out.replace(at, Math.min(out.length(), at + 1), BITS[random.nextInt(BITS.length)]);
            }
        }
        return out.toString();
    }

    private String gap() {
        return chance(10) ? (chance(50) ? "\n" : "  ") : " ";
    }

    private String formula(int size, String[] leaves) {
        StringBuilder out = new StringBuilder();
        int terms = 1 + random.nextInt(size);
        for (int i = 0; i < terms; i++) {
            if (i > 0) {
                out.append(gap()).append("&|^".charAt(random.nextInt(3))).append(gap());
            }
            if (chance(20)) {
                out.append("!".repeat(1 + random.nextInt(chance(10) ? 11 : 3)));
            }
            if (size > 1 && chance(25)) {
                out.append('(').append(formula(size - 1, leaves)).append(')');
            } else if (leaves.length == 0 || chance(8)) {
                out.append(random.nextInt(2));
            } else {
                out.append(leaves[random.nextInt(leaves.length)]);
            }
        }
        return out.toString();
    }

    private String circuitText() {
        StringBuilder out = new StringBuilder();
        nodes = 1 + random.nextInt(chance(10) ? 41 : 9);
        boolean loops = chance(15);
        for (int n = 0; n < nodes; n++) {
            int kind = random.nextInt(4);
            if (kind == 0 || n == 0) {
                out.append("input n").append(n);
                while (n + 1 < nodes && chance(40)) {
                    n++;
                    out.append(',').append(gap()).append('n').append(n);
                }
                out.append(";");
            } else {
                boolean wire = kind < 3;
                int reach = wire && !loops ? n : nodes;
                String[] leaves = new String[reach];
                for (int i = 0; i < reach; i++) {
                    leaves[i] = "n" + i;
                }
                out.append(wire ? "wire n" : "latch n").append(n).append(" = ");
                out.append(formula(1 + random.nextInt(4), leaves)).append(";");
            }
            out.append(gap());
        }
        return out.toString();
    }

    private String clauses(String[] leaves, int most) {
        StringBuilder out = new StringBuilder();
        int many = 1 + random.nextInt(most);
        for (int i = 0; i < many; i++) {
            out.append(i > 0 ? "," : "").append(gap());
            out.append('n').append(random.nextInt(nodes)).append(" is ").append(formula(2, leaves));
            if (chance(35)) {
                out.append(" if ").append(formula(3, leaves));
            }
            if (chance(70)) {
                int from = random.nextInt(chance(20) ? 12 : 5);
                out.append(" at ").append(chance(10) ? "00" : "").append(from);
                if (chance(40)) {
                    out.append(" to ").append(from + random.nextInt(chance(5) ? 13 - from : 2));
                }
            }
        }
        return out.toString();
    }

    private String assertionText() {
        String[] leaves = new String[random.nextInt(chance(25) ? 12 : 5)];
        for (int i = 0; i < leaves.length; i++) {
            leaves[i] = (char) ('Z' - i / 2) + (i % 2 == 0 ? "" : "7");
        }
        int most = chance(5) ? 26 : 5;
        return "given" + clauses(leaves, most) + gap() + "then" + clauses(leaves, most) + ".";
    }

    private void askAll() {
        Rig.due("fails of " + trail, rails.fails(), oracle.fails());
        Rig.due("excluded of " + trail, rails.excluded(), oracle.excluded());
        for (int what = -1; what <= 8; what++) {
            Rig.due("count " + what + " of " + trail, rails.count(what), oracle.count(what));
        }
        int assignments = 1 << rails.count(4);
        for (int i = 0; i < 12; i++) {
            int k = random.nextInt(assignments + 2) - 1;
            Rig.due("failing " + k + " of " + trail, rails.failing(k), oracle.failing(k));
            int a = random.nextInt(assignments + 2) - 1;
            if (chance(50) && rails.fails() > 0) {
                a = rails.failing(random.nextInt(rails.fails()));
            }
            int what = random.nextInt(20) == 0 ? 2 : random.nextInt(2);
            Rig.due("shortfall " + a + " " + what + " of " + trail,
                    rails.shortfall(a, what), oracle.shortfall(a, what));
        }
        for (int i = 0; i < 40; i++) {
            int node = random.nextInt(rails.count(0) + 2) - 1;
            int time = random.nextInt(rails.count(7) + 3) - 1;
            int a = random.nextInt(assignments + 2) - 1;
            int v = random.nextInt(rails.count(4) + 2) - 1;
            Rig.due("value " + node + " " + time + " " + a + " of " + trail,
                    rails.value(node, time, a), oracle.value(node, time, a));
            Rig.due("matters " + node + " " + time + " " + v + " of " + trail,
                    rails.matters(node, time, v), oracle.matters(node, time, v));
            Rig.due("cone " + node + " of " + trail, rails.cone(node), oracle.cone(node));
        }
    }
}
