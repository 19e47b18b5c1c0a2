/** What the tests share: texts onto the tape, and the count of answers that are not as due. */
final class Rig {
    private static int wrong = 0;
    private static int asked = 0;

    private Rig() {}

    static void due(String call, int got, int want) {
        asked++;
        if (got != want) {
            wrong++;
            if (wrong <= 50) {
                System.out.println(call + " answered " + got + ", due is " + want);
            }
        }
    }

    static void finish() {
        System.out.println(asked + " answers, " + wrong + " not as due");
        if (wrong != 0 || asked == 0) {
            System.exit(1);
        }
    }

    /** The 20 bytes from a place of the text, behind its end zeros, as five numbers. */
    static int[] words(String text, int from) {
        int[] words = new int[5];
        for (int i = 0; i < 20; i++) {
            int b = from + i < text.length() ? text.charAt(from + i) & 255 : 0;
            words[i / 4] = words[i / 4] << 8 | b;
        }
        return words;
    }

    static void put(TrajectoryRails rails, String text) {
        for (int from = 0; from < text.length(); from += 20) {
            int[] w = words(text, from);
            rails.feed(w[0], w[1], w[2], w[3], w[4]);
        }
        due("end(" + text.length() + ")", rails.end(text.length()), text.length());
    }

    static int circuit(TrajectoryRails rails, String text) {
        put(rails, text);
        return rails.circuit();
    }

    static int assertion(TrajectoryRails rails, String text) {
        put(rails, text);
        return rails.assertion();
    }

    /** A text is marked with a ~ at the place of its fault; one without has none. */
    private static int faultIn(String marked) {
        return marked.indexOf('~') < 0 ? TrajectoryRails.NONE : marked.indexOf('~');
    }

    static void circuitDue(TrajectoryRails rails, String marked) {
        due("circuit of " + marked, circuit(rails, marked.replace("~", "")), faultIn(marked));
    }

    static void assertionDue(TrajectoryRails rails, String marked) {
        due("assertion of " + marked, assertion(rails, marked.replace("~", "")), faultIn(marked));
    }

    static TrajectoryRails with(String circuit) {
        TrajectoryRails rails = new TrajectoryRails();
        due("circuit of " + circuit, circuit(rails, circuit), TrajectoryRails.NONE);
        return rails;
    }

    static TrajectoryRails with(String circuit, String assertion) {
        TrajectoryRails rails = with(circuit);
        due("assertion of " + assertion, assertion(rails, assertion), TrajectoryRails.NONE);
        return rails;
    }
}
