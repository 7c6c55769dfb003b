import java.util.ArrayDeque;
import java.util.ArrayList;
import java.util.BitSet;
import java.util.HashMap;
import java.util.LinkedHashMap;
import java.util.List;
import java.util.Map;

/**
 * The document said once more in another way, to compare with: a tree of parts read by recursion, laid out by
 * copying its branches, matched by the places at which words end, and automata told apart by all pairs.
 */
final class Reference {
    static final class Fault extends RuntimeException {
        private static final long serialVersionUID = 1;
        final int number;
        final int place;

        Fault(int number, int place) {
            this.number = number;
            this.place = place;
        }
    }

    enum Kind { SET, ROW, CHOICES, STAR, PLUS, OPTION }

    static final class Node {
        final Kind kind;
        final List<Node> parts = new ArrayList<>();
        BitSet letters;
        int position = -1;

        Node(Kind kind, Node... parts) {
            this.kind = kind;
            this.parts.addAll(List.of(parts));
        }

        Node copy() {
            Node copy = new Node(kind);
            copy.letters = letters;
            for (Node part : parts) {
                copy.parts.add(part.copy());
            }
            return copy;
        }
    }

    static final String LETTERS = "abcdefghijklmnopqrstuvwxyz0123456789";

    final String pattern;
    private int at;
    private int count;
    final Node tree;
    final List<Node> positions = new ArrayList<>();
    final BitSet first;
    final BitSet last;
    final BitSet[] follow;
    final boolean empty;
    final List<int[]> ways = new ArrayList<>();
    final List<Boolean> goods = new ArrayList<>();
    boolean beyond;

    Reference(String pattern) {
        this.pattern = pattern;
        tree = choices(0);
        if (at < pattern.length()) {
            throw new Fault(1, at);
        }
        number(tree);
        follow = new BitSet[positions.size()];
        for (int p = 0; p < follow.length; p++) {
            follow[p] = new BitSet();
        }
        empty = nullable(tree);
        first = ends(tree, true);
        last = ends(tree, false);
        fillFollow(tree);
        build();
    }

    private char peek() {
        return at < pattern.length() ? pattern.charAt(at) : 0;
    }

    private Node choices(int depth) {
        Node choices = new Node(Kind.CHOICES, row(depth));
        while (at < pattern.length() && peek() == '|') {
            at++;
            choices.parts.add(row(depth));
        }
        return choices;
    }

    private Node row(int depth) {
        Node row = new Node(Kind.ROW);
        while (at < pattern.length() && peek() != '|' && peek() != ')') {
            row.parts.add(part(depth));
        }
        return row;
    }

    private Node part(int depth) {
        int before = count;
        Node part = atom(depth);
        while (at < pattern.length() && "*+?{".indexOf(peek()) >= 0) {
            char c = pattern.charAt(at++);
            part = switch (c) {
                case '*' -> new Node(Kind.STAR, part);
                case '+' -> new Node(Kind.PLUS, part);
                case '?' -> new Node(Kind.OPTION, part);
                default -> times(part, before, at - 1);
            };
        }
        return part;
    }

    private Node atom(int depth) {
        int start = at;
        char c = pattern.charAt(at++);
        if (c == '(') {
            if (depth == 8) {
                throw new Fault(5, start);
            }
            Node inside = choices(depth + 1);
            if (at == pattern.length()) {
                throw new Fault(2, at);
            }
            at++;
            return inside;
        }
        Node atom = new Node(Kind.SET);
        atom.letters = new BitSet();
        if (c == '.') {
            atom.letters.set(0, 36);
        } else if (c == '[') {
            set(atom.letters);
        } else if (LETTERS.indexOf(c) >= 0) {
            atom.letters.set(LETTERS.indexOf(c));
        } else {
            throw new Fault(1, start);
        }
        if (++count > 60) {
            throw new Fault(4, start);
        }
        return atom;
    }

    private char taken() {
        if (at == pattern.length()) {
            throw new Fault(2, at);
        }
        return pattern.charAt(at++);
    }

    private int takenOf(String some) {
        int i = some.indexOf(taken());
        if (i < 0) {
            throw new Fault(1, at - 1);
        }
        return i;
    }

    private void set(BitSet letters) {
        boolean not = at < pattern.length() && peek() == '^';
        at += not ? 1 : 0;
        int i = takenOf(LETTERS);
        while (i < 36) {
            int from = i;
            int place = at - 1;
            i = takenOf(LETTERS + "]-");
            if (i == 37) {
                int to = takenOf(LETTERS);
                if (from > to) {
                    throw new Fault(6, place);
                }
                letters.set(from, to + 1);
                i = takenOf(LETTERS + "]");
            } else {
                letters.set(from);
            }
        }
        if (not) {
            letters.flip(0, 36);
        }
    }

    private Node times(Node part, int before, int place) {
        int m = takenOf("0123456789");
        int n = m;
        if (takenOf(",}") == 0) {
            n = takenOf("0123456789");
            takenOf("}");
        }
        if (m > n || n > 5 || n == 0) {
            throw new Fault(3, place);
        }
        int width = count - before;
        count = before + width * n;
        if (count > 60) {
            throw new Fault(4, place);
        }
        if (width == 0) {
            // it has no word but that without letters, however often it stands there
            return part;
        }
        Node row = new Node(Kind.ROW);
        for (int i = 0; i < n; i++) {
            row.parts.add(i < m ? part.copy() : new Node(Kind.OPTION, part.copy()));
        }
        return row;
    }

    private void number(Node node) {
        if (node.kind == Kind.SET) {
            node.position = positions.size();
            positions.add(node);
        }
        for (Node part : node.parts) {
            number(part);
        }
    }

    private static boolean nullable(Node node) {
        return switch (node.kind) {
            case SET -> false;
            case ROW -> node.parts.stream().allMatch(Reference::nullable);
            case CHOICES -> node.parts.stream().anyMatch(Reference::nullable);
            case STAR, OPTION -> true;
            case PLUS -> nullable(node.parts.get(0));
        };
    }

    private static BitSet ends(Node node, boolean front) {
        BitSet set = new BitSet();
        if (node.kind == Kind.SET) {
            set.set(node.position);
        }
        int size = node.parts.size();
        for (int i = 0; i < size; i++) {
            Node part = node.parts.get(front ? i : size - 1 - i);
            set.or(ends(part, front));
            if (node.kind == Kind.ROW && !nullable(part)) {
                break;
            }
        }
        return set;
    }

    private void fillFollow(Node node) {
        for (Node part : node.parts) {
            fillFollow(part);
        }
        if (node.kind == Kind.STAR || node.kind == Kind.PLUS) {
            join(node, node);
        }
        if (node.kind == Kind.ROW) {
            for (int i = 0; i < node.parts.size(); i++) {
                for (int j = i + 1; j < node.parts.size(); j++) {
                    join(node.parts.get(i), node.parts.get(j));
                    if (!nullable(node.parts.get(j))) {
                        break;
                    }
                }
            }
        }
    }

    private void join(Node before, Node behind) {
        BitSet begins = ends(behind, true);
        ends(before, false).stream().forEach(p -> follow[p].or(begins));
    }

    /** The places at which words of a part end that begin at one of some places. */
    static BitSet match(Node node, String text, BitSet from) {
        BitSet to = new BitSet();
        switch (node.kind) {
            case SET -> from.stream().filter(i -> i < text.length())
                    .filter(i -> node.letters.get(LETTERS.indexOf(text.charAt(i))))
                    .forEach(i -> to.set(i + 1));
            case ROW -> {
                to.or(from);
                for (Node part : node.parts) {
                    BitSet next = match(part, text, to);
                    to.clear();
                    to.or(next);
                }
            }
            case CHOICES -> node.parts.forEach(part -> to.or(match(part, text, from)));
            case OPTION -> {
                to.or(from);
                to.or(match(node.parts.get(0), text, from));
            }
            default -> {
                to.or(node.kind == Kind.STAR ? from : match(node.parts.get(0), text, from));
                int before = -1;
                while (before != to.cardinality()) {
                    before = to.cardinality();
                    to.or(match(node.parts.get(0), text, (BitSet) to.clone()));
                }
            }
        }
        return to;
    }

    boolean whole(String text) {
        BitSet start = new BitSet();
        start.set(0);
        return match(tree, text, start).get(text.length());
    }

    String finds(String text) {
        StringBuilder all = new StringBuilder();
        for (int i = 0; i < text.length(); i++) {
            BitSet start = new BitSet();
            start.set(i);
            int end = match(tree, text, start).length() - 1;
            if (end > i) {
                all.append(i).append('-').append(end).append(' ');
                i = end - 1;
            }
        }
        return all.toString().trim();
    }

    private void build() {
        // the beginning is told from every set by a position that none has
        BitSet beginning = new BitSet();
        beginning.set(99);
        Map<BitSet, Integer> numbers = new LinkedHashMap<>();
        List<BitSet> sets = new ArrayList<>();
        numbers.put(beginning, 0);
        sets.add(beginning);
        for (int s = 0; s < sets.size(); s++) {
            BitSet set = sets.get(s);
            goods.add(s == 0 ? empty : set.intersects(last));
            int[] row = new int[36];
            for (int letter = 0; letter < 36; letter++) {
                BitSet target = step(set, letter);
                if (!numbers.containsKey(target) && sets.size() < 300) {
                    numbers.put(target, sets.size());
                    sets.add(target);
                }
                row[letter] = numbers.getOrDefault(target, -1);
                beyond |= row[letter] < 0;
            }
            ways.add(row);
        }
    }

    private BitSet step(BitSet set, int letter) {
        BitSet target = new BitSet();
        set.stream().forEach(p -> target.or(p == 99 ? first : follow[p]));
        for (int p = 0; p < positions.size(); p++) {
            if (!positions.get(p).letters.get(letter)) {
                target.clear(p);
            }
        }
        return target;
    }

    /** Counts classes by marking pairs of states that a word parts, until no more are marked. */
    int classes() {
        if (beyond) {
            return -1;
        }
        int size = ways.size();
        boolean[][] apart = new boolean[size][size];
        boolean more = true;
        for (int s = 0; s < size; s++) {
            for (int t = 0; t < size; t++) {
                apart[s][t] = !goods.get(s).equals(goods.get(t));
            }
        }
        while (more) {
            more = false;
            for (int s = 0; s < size; s++) {
                for (int t = 0; t < s; t++) {
                    for (int letter = 0; letter < 36 && !apart[s][t]; letter++) {
                        if (apart[ways.get(s)[letter]][ways.get(t)[letter]]) {
                            apart[s][t] = true;
                            apart[t][s] = true;
                            more = true;
                        }
                    }
                }
            }
        }
        int classes = 0;
        for (int s = 0; s < size; s++) {
            boolean isNew = true;
            for (int t = 0; t < s; t++) {
                isNew &= apart[s][t];
            }
            classes += isNew ? 1 : 0;
        }
        return classes;
    }

    /** The first of the shortest words that just one has; "same" or "beyond". */
    static String differ(Reference a, Reference b) {
        if (a.beyond || b.beyond) {
            return "beyond";
        }
        Map<Integer, String> words = new HashMap<>();
        ArrayDeque<Integer> queue = new ArrayDeque<>();
        words.put(0, "");
        queue.add(0);
        while (!queue.isEmpty()) {
            int pair = queue.remove();
            int s = pair / 1000;
            int t = pair % 1000;
            if (!a.goods.get(s).equals(b.goods.get(t))) {
                return words.get(pair);
            }
            for (int letter = 0; letter < 36; letter++) {
                int next = a.ways.get(s)[letter] * 1000 + b.ways.get(t)[letter];
                if (!words.containsKey(next)) {
                    words.put(next, words.get(pair) + LETTERS.charAt(letter));
                    queue.add(next);
                }
            }
        }
        return "same";
    }
}
