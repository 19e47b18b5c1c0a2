import java.util.ArrayList;
import java.util.HashSet;
import java.util.List;
import java.util.Set;

/**
 * The document told a second time, one assignment after the other and by recursion, to hold the
 * class against. It shares nothing with the class, not even the constants.
 */
final class Oracle {
    static final int REFUSED = -1, NONE = -2, FULL = -3;
    private static final Set<String> WORDS =
            Set.of("input", "wire", "latch", "given", "then", "is", "if", "at", "to");

    static final class Fault extends Exception {
        private static final long serialVersionUID = 1;
        final int place;

        Fault(int place) {
            this.place = place;
        }
    }

    record Token(char kind, String text, int place) {}

    static final class Expr {
        char op;
        String name;
        int place;
        int constant;
        Expr left;
        Expr right;
    }

    static final class Node {
        String name;
        char kind;
        int place;
        Expr expr;
    }

    static final class Clause {
        int node;
        Expr is;
        Expr when;
        int from;
        int to;
    }

    private StringBuilder tape = new StringBuilder();
    private List<Node> nodes = new ArrayList<>();
    private boolean asserted;
    private List<Clause> given = new ArrayList<>();
    private List<Clause> then = new ArrayList<>();
    private List<String> variables = new ArrayList<>();
    private int last;
    private int[][][] trajectories = new int[0][][];

    private String text;
    private int at;
    private Token token;
    private int atoms;
    private boolean inCircuit;
    private List<String> seen;
    private List<Expr> mentions;

    int feed(int... words) {
        if (tape.length() + 20 > 2000) {
            return FULL;
        }
        for (int word : words) {
            for (int i = 3; i >= 0; i--) {
                tape.append((char) (word >> 8 * i & 255));
            }
        }
        return tape.length();
    }

    int end(int n) {
        if (n < 0 || n > tape.length()) {
            return REFUSED;
        }
        tape.setLength(n);
        return n;
    }

    private Token read() throws Fault {
        while (at < text.length() && (text.charAt(at) == 32 || text.charAt(at) == 10)) {
            at++;
        }
        if (at == text.length()) {
            return new Token('E', "", at);
        }
        String rest = text.substring(at);
        char c = rest.charAt(0);
        if ("=&|^!();,.".indexOf(c) >= 0) {
            return new Token(c, rest.substring(0, 1), at);
        }
        String run;
        char kind;
        int most;
        if (c >= 'a' && c <= 'z') {
            run = rest.replaceFirst("(?s)[^a-z0-9_].*", "");
            kind = WORDS.contains(run) ? 'W' : 'N';
            most = 8;
        } else if (c >= 'A' && c <= 'Z') {
            run = rest.replaceFirst("(?s)[^A-Z0-9].*", "");
            kind = 'V';
            most = 4;
        } else if (c >= '0' && c <= '9') {
            run = rest.replaceFirst("(?s)[^0-9].*", "");
            kind = 'D';
            most = 4;
        } else {
            throw new Fault(at);
        }
        if (run.length() > most) {
            throw new Fault(at);
        }
        return new Token(kind, run, at);
    }

    private void advance() throws Fault {
        at = token.place + token.text.length();
        token = read();
    }

    private Fault here() {
        return new Fault(token.place);
    }

    private boolean sees(String what) {
        return token.text.equals(what) && token.kind != 'N';
    }

    private boolean accept(String what) throws Fault {
        if (!sees(what)) {
            return false;
        }
        advance();
        return true;
    }

    private void demand(String what) throws Fault {
        if (!accept(what)) {
            throw here();
        }
    }

    private static Expr make(char op, Expr left, Expr right) {
        Expr e = new Expr();
        e.op = op;
        e.left = left;
        e.right = right;
        return e;
    }

    private Expr ors(int depth) throws Fault {
        Expr e = xors(depth);
        while (accept("|")) {
            e = make('|', e, xors(depth));
        }
        return e;
    }

    private Expr xors(int depth) throws Fault {
        Expr e = ands(depth);
        while (accept("^")) {
            e = make('^', e, ands(depth));
        }
        return e;
    }

    private Expr ands(int depth) throws Fault {
        Expr e = not(depth);
        while (accept("&")) {
            e = make('&', e, not(depth));
        }
        return e;
    }

    private Expr not(int depth) throws Fault {
        if ((sees("!") || sees("(")) && depth == 10) {
            throw here();
        }
        if (accept("!")) {
            return make('!', not(depth + 1), null);
        }
        if (accept("(")) {
            Expr e = ors(depth + 1);
            demand(")");
            return e;
        }
        Expr e = new Expr();
        e.place = token.place;
        e.name = token.text;
        if (token.kind == 'D' && (token.text.equals("0") || token.text.equals("1"))) {
            e.op = 'c';
            e.constant = token.text.charAt(0) - '0';
        } else if (inCircuit && token.kind == 'N') {
            e.op = 'n';
            mentions.add(e);
        } else if (!inCircuit && token.kind == 'V') {
            e.op = 'n';
            if (!seen.contains(token.text)) {
                seen.add(token.text);
            }
            if (seen.size() > 9) {
                throw here();
            }
        } else {
            throw here();
        }
        atoms++;
        if (atoms > 300) {
            throw here();
        }
        advance();
        return e;
    }

    private void start(boolean circuit) throws Fault {
        text = tape.toString();
        tape.setLength(0);
        at = 0;
        atoms = 0;
        inCircuit = circuit;
        seen = new ArrayList<>();
        mentions = new ArrayList<>();
        token = read();
    }

    private static int indexOf(List<Node> list, String name) {
        for (int i = 0; i < list.size(); i++) {
            if (list.get(i).name.equals(name)) {
                return i;
            }
        }
        return -1;
    }

    private Node declaration(List<Node> list, char kind) throws Fault {
        if (token.kind != 'N' || indexOf(list, token.text) >= 0 || list.size() == 40) {
            throw here();
        }
        Node node = new Node();
        node.name = token.text;
        node.kind = kind;
        node.place = token.place;
        list.add(node);
        advance();
        return node;
    }

    int circuit() {
        try {
            start(true);
            List<Node> list = new ArrayList<>();
            while (token.kind != 'E') {
                if (accept("input")) {
                    do {
                        declaration(list, 'i');
                    } while (accept(","));
                } else {
                    char kind = sees("wire") ? 'w' : 'l';
                    if (!accept("wire")) {
                        demand("latch");
                    }
                    Node node = declaration(list, kind);
                    demand("=");
                    node.expr = ors(0);
                }
                demand(";");
            }
            for (Expr e : mentions) {
                if (indexOf(list, e.name) < 0) {
                    throw new Fault(e.place);
                }
            }
            for (Node node : list) {
                Set<String> met = new HashSet<>();
                if (node.kind == 'w') {
                    gather(list, node, true, met);
                    if (met.contains(node.name)) {
                        throw new Fault(node.place);
                    }
                }
            }
            nodes = list;
            asserted = false;
            return NONE;
        } catch (Fault fault) {
            return fault.place;
        }
    }

    private static void gather(List<Node> list, Node node, boolean wiresOnly, Set<String> met) {
        List<String> used = new ArrayList<>();
        names(node.expr, used);
        for (String name : used) {
            Node next = list.get(indexOf(list, name));
            if ((!wiresOnly || next.kind == 'w') && met.add(name)) {
                gather(list, next, wiresOnly, met);
            }
        }
    }

    private static void names(Expr e, List<String> used) {
        if (e == null) {
            return;
        }
        if (e.op == 'n') {
            used.add(e.name);
        }
        names(e.left, used);
        names(e.right, used);
    }

    private List<Clause> part() throws Fault {
        List<Clause> list = new ArrayList<>();
        do {
            if (list.size() == 24 || token.kind != 'N' || indexOf(nodes, token.text) < 0) {
                throw here();
            }
            Clause clause = new Clause();
            clause.node = indexOf(nodes, token.text);
            advance();
            demand("is");
            clause.is = ors(0);
            if (accept("if")) {
                clause.when = ors(0);
            }
            if (accept("at")) {
                clause.from = time(0);
                clause.to = clause.from;
                if (accept("to")) {
                    clause.to = time(clause.from);
                }
            }
            list.add(clause);
        } while (accept(","));
        return list;
    }

    private int time(int least) throws Fault {
        if (token.kind != 'D' || Integer.parseInt(token.text) > 11 || Integer.parseInt(token.text) < least) {
            throw here();
        }
        int time = Integer.parseInt(token.text);
        advance();
        return time;
    }

    int assertion() {
        try {
            start(false);
            demand("given");
            List<Clause> first = part();
            demand("then");
            List<Clause> second = part();
            demand(".");
            if (token.kind != 'E') {
                throw here();
            }
            given = first;
            then = second;
            variables = seen;
            asserted = true;
            last = 0;
            given.forEach(c -> last = Math.max(last, c.to));
            then.forEach(c -> last = Math.max(last, c.to));
            trajectories = new int[1 << variables.size()][][];
            for (int a = 0; a < trajectories.length; a++) {
                trajectories[a] = trajectory(a);
            }
            return NONE;
        } catch (Fault fault) {
            return fault.place;
        }
    }

    private int bool(Expr e, int assignment) {
        switch (e.op) {
            case 'c':
                return e.constant;
            case 'n':
                return assignment >> variables.size() - 1 - variables.indexOf(e.name) & 1;
            case '!':
                return 1 - bool(e.left, assignment);
            case '&':
                return bool(e.left, assignment) & bool(e.right, assignment);
            case '|':
                return bool(e.left, assignment) | bool(e.right, assignment);
            default:
                return bool(e.left, assignment) ^ bool(e.right, assignment);
        }
    }

    private boolean active(Clause clause, int assignment) {
        return clause.when == null || bool(clause.when, assignment) == 1;
    }

    /** By time and node; null if the assignment is excluded. */
    private int[][] trajectory(int assignment) {
        int[][] rows = new int[last + 1][nodes.size()];
        for (int t = 0; t <= last; t++) {
            java.util.Arrays.fill(rows[t], -1);
            for (int n = 0; n < nodes.size(); n++) {
                if (!settle(rows, t, n, assignment)) {
                    return null;
                }
            }
        }
        return rows;
    }

    private boolean settle(int[][] rows, int t, int n, int assignment) {
        if (rows[t][n] != -1) {
            return true;
        }
        Node node = nodes.get(n);
        int value = 2;
        if (node.kind == 'w') {
            List<String> used = new ArrayList<>();
            names(node.expr, used);
            for (String name : used) {
                if (!settle(rows, t, indexOf(nodes, name), assignment)) {
                    return false;
                }
            }
            value = trit(node.expr, rows[t]);
        } else if (node.kind == 'l' && t > 0) {
            value = trit(node.expr, rows[t - 1]);
        }
        for (Clause clause : given) {
            if (clause.node == n && clause.from <= t && t <= clause.to && active(clause, assignment)) {
                int said = bool(clause.is, assignment);
                if (value == 2) {
                    value = said;
                } else if (value != said) {
                    return false;
                }
            }
        }
        rows[t][n] = value;
        return true;
    }

    private int trit(Expr e, int[] row) {
        if (e.op == 'c') {
            return e.constant;
        }
        if (e.op == 'n') {
            return row[indexOf(nodes, e.name)];
        }
        int a = trit(e.left, row);
        if (e.op == '!') {
            return a == 2 ? 2 : 1 - a;
        }
        int b = trit(e.right, row);
        if (e.op == '^') {
            return a == 2 || b == 2 ? 2 : a ^ b;
        }
        int strong = e.op == '&' ? 0 : 1;
        if (a == strong || b == strong) {
            return strong;
        }
        return a == 2 || b == 2 ? 2 : 1 - strong;
    }

    private int[] shortfallOf(int assignment) {
        if (!asserted || assignment < 0 || assignment >= trajectories.length) {
            return null;
        }
        int[][] rows = trajectories[assignment];
        for (int c = 0; rows != null && c < then.size(); c++) {
            Clause clause = then.get(c);
            for (int t = clause.from; t <= clause.to && active(clause, assignment); t++) {
                if (rows[t][clause.node] != bool(clause.is, assignment)) {
                    return new int[] {c, t};
                }
            }
        }
        return null;
    }

    int fails() {
        int many = 0;
        for (int a = 0; asserted && a < trajectories.length; a++) {
            many += shortfallOf(a) != null ? 1 : 0;
        }
        return asserted ? many : REFUSED;
    }

    int excluded() {
        int many = 0;
        for (int a = 0; asserted && a < trajectories.length; a++) {
            many += trajectories[a] == null ? 1 : 0;
        }
        return asserted ? many : REFUSED;
    }

    int failing(int k) {
        int before = 0;
        for (int a = 0; asserted && a < trajectories.length; a++) {
            if (shortfallOf(a) != null) {
                if (before == k) {
                    return a;
                }
                before++;
            }
        }
        return NONE;
    }

    int shortfall(int assignment, int what) {
        if (what != 0 && what != 1) {
            return REFUSED;
        }
        int[] found = shortfallOf(assignment);
        return found == null ? NONE : found[what];
    }

    private boolean hasPlace(int node, int time) {
        return asserted && node >= 0 && node < nodes.size() && time >= 0 && time <= last;
    }

    int value(int node, int time, int assignment) {
        if (!hasPlace(node, time) || assignment < 0 || assignment >= trajectories.length) {
            return NONE;
        }
        return trajectories[assignment] == null ? 3 : trajectories[assignment][time][node];
    }

    int matters(int node, int time, int v) {
        if (!hasPlace(node, time) || v < 0 || v >= variables.size()) {
            return NONE;
        }
        int bit = 1 << variables.size() - 1 - v;
        for (int a = 0; a < trajectories.length; a++) {
            int[][] one = trajectories[a];
            int[][] other = trajectories[a ^ bit];
            if (one != null && other != null && one[time][node] != other[time][node]) {
                return 1;
            }
        }
        return 0;
    }

    int cone(int node) {
        if (node < 0 || node >= nodes.size()) {
            return NONE;
        }
        Set<String> met = new HashSet<>();
        gather(nodes, nodes.get(node), false, met);
        return met.size();
    }

    int count(int what) {
        if (what < 0 || what > 7) {
            return REFUSED;
        }
        if (what == 0) {
            return nodes.size();
        }
        if (what < 4) {
            return (int) nodes.stream().filter(n -> n.kind == " iwl".charAt(what)).count();
        }
        int[] of = {variables.size(), given.size(), then.size(), last};
        return asserted ? of[what - 4] : 0;
    }
}
