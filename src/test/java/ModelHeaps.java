import java.util.ArrayDeque;
import java.util.ArrayList;
import java.util.Arrays;
import java.util.Collections;
import java.util.Deque;
import java.util.IdentityHashMap;
import java.util.List;
import java.util.Map;
import java.util.Set;
import java.util.TreeMap;
import java.util.stream.Stream;

/**
 * The document once more, over objects that lead to one another, as the ModelTest compares it with the program. It
 * keeps no counts: what is free, used or counted is added up anew at each question.
 */
final class ModelHeaps {
    private static final Term NIL = new Term(0, 0, List.of());

    private final int words;
    private final TreeMap<Integer, Proc> alive = new TreeMap<>();
    private int latest;
    private int collections;

    ModelHeaps(int words) {
        this.words = words < 40 ? 40 : words > 600 ? 600 : words;
    }

    /** A handle's value is its blob's size, and its blob is an object of which only the identity counts. */
    private static final class Term {
        final int kind;
        final int value;
        final List<Term> parts;
        final Object blob;

        Term(int kind, int value, List<Term> parts, Object blob) {
            this.kind = kind;
            this.value = value;
            this.parts = parts;
            this.blob = blob;
        }

        Term(int kind, int value, List<Term> parts) {
            this(kind, value, parts, null);
        }

        boolean lies() {
            return kind >= 3;
        }

        int length() {
            return kind == 4 ? parts.size() + 1 : 2;
        }
    }

    private static final class Proc {
        int capacity = 8;
        List<Term> heap = new ArrayList<>();
        final Term[] registers = {NIL, NIL, NIL, NIL};
        final Deque<Term> mailbox = new ArrayDeque<>();

        int used() {
            return lengths(heap);
        }
    }

    private static int lengths(List<Term> terms) {
        return terms.stream().mapToInt(Term::length).sum();
    }

    /** All that the terms lead to: these first, then their parts, and so on. */
    private static List<Term> reached(List<Term> roots) {
        Set<Term> seen = Collections.newSetFromMap(new IdentityHashMap<>());
        List<Term> order = new ArrayList<>();
        Deque<List<Term>> groups = new ArrayDeque<>(List.of(roots));
        while (!groups.isEmpty()) {
            for (Term term : groups.removeFirst()) {
                if (term.lies() && seen.add(term)) {
                    order.add(term);
                    groups.addLast(term.parts);
                }
            }
        }
        return order;
    }

    private Stream<Term> allHandles() {
        return alive.values().stream().flatMap(p -> p.heap.stream()).filter(t -> t.kind == 5);
    }

    private Map<Object, Integer> handleCounts() {
        Map<Object, Integer> counts = new IdentityHashMap<>();
        allHandles().forEach(t -> counts.merge(t.blob, 1, Integer::sum));
        return counts;
    }

    private int free() {
        Map<Object, Integer> sizes = new IdentityHashMap<>();
        allHandles().forEach(t -> sizes.put(t.blob, t.value));
        int capacities = alive.values().stream().mapToInt(p -> p.capacity).sum();
        return words - capacities - sizes.values().stream().mapToInt(Integer::intValue).sum();
    }

    private Proc find(int process, int... registers) {
        if (!alive.containsKey(process) || Arrays.stream(registers).anyMatch(r -> r < 0 || r > 3)) {
            throw new IndexOutOfBoundsException();
        }
        return alive.get(process);
    }

    private static void argument(boolean good) {
        if (!good) {
            throw new IllegalArgumentException();
        }
    }

    private static void state(boolean good) {
        if (!good) {
            throw new IllegalStateException();
        }
    }

    private void clean(Proc p) {
        List<Term> roots = new ArrayList<>(List.of(p.registers));
        roots.addAll(p.mailbox);
        p.heap = reached(roots);
        collections++;
    }

    private boolean room(Proc p, int n) {
        if (p.used() + n <= p.capacity) {
            return true;
        }
        clean(p);
        int capacity = p.capacity;
        while (p.used() + n > capacity) {
            capacity += 8;
        }
        if (capacity - p.capacity > free()) {
            return false;
        }
        p.capacity = capacity;
        return true;
    }

    private static void put(Proc p, int r, Term made) {
        p.heap.add(made);
        p.registers[r] = made;
    }

    public int spawn() {
        state(alive.size() < 8 && free() >= 8);
        alive.put(++latest, new Proc());
        return latest;
    }

    public int exit(int process) {
        find(process);
        int before = free();
        alive.remove(process);
        return free() - before;
    }

    public void nil(int process, int r) {
        find(process, r).registers[r] = NIL;
    }

    public void integer(int process, int r, int n) {
        Proc p = find(process, r);
        argument(n >= -134217728 && n <= 134217727);
        p.registers[r] = new Term(1, n, List.of());
    }

    public void name(int process, int r, int other) {
        Proc p = find(process, r);
        argument(other >= 1 && other <= latest);
        p.registers[r] = new Term(2, other, List.of());
    }

    public void move(int process, int r, int a) {
        Proc p = find(process, r, a);
        p.registers[r] = p.registers[a];
    }

    public void pair(int process, int r, int a, int b) {
        Proc p = find(process, r, a, b);
        state(room(p, 2));
        put(p, r, new Term(3, 2, List.of(p.registers[a], p.registers[b])));
    }

    public void tuple(int process, int r, int n) {
        Proc p = find(process, r);
        argument(n >= 0 && n <= 4);
        state(room(p, n + 1));
        put(p, r, new Term(4, n, List.copyOf(Arrays.asList(p.registers).subList(0, n))));
    }

    public void blob(int process, int r, int size) {
        Proc p = find(process, r);
        argument(size >= 1 && size <= 100);
        state(room(p, 2));
        if (free() < size || handleCounts().size() >= 30) {
            throw new UnsupportedOperationException();
        }
        put(p, r, new Term(5, size, List.of(), new Object()));
    }

    public void part(int process, int r, int a, int k) {
        Proc p = find(process, r, a);
        argument(k >= 0 && k < p.registers[a].parts.size());
        p.registers[r] = p.registers[a].parts.get(k);
    }

    private boolean give(Proc from, Term term, Proc to) {
        if (from == to) {
            to.mailbox.addLast(term);
            return true;
        }
        List<Term> all = reached(List.of(term));
        if (!room(to, lengths(all))) {
            return false;
        }
        Map<Term, Term> copies = new IdentityHashMap<>();
        Term copied = copy(term, copies);
        all.forEach(t -> to.heap.add(copies.get(t)));
        to.mailbox.addLast(copied);
        return true;
    }

    private static Term copy(Term term, Map<Term, Term> copies) {
        if (!term.lies()) {
            return term;
        }
        Term known = copies.get(term);
        if (known == null) {
            List<Term> parts = term.parts.stream().map(t -> copy(t, copies)).toList();
            known = new Term(term.kind, term.value, parts, term.blob);
            copies.put(term, known);
        }
        return known;
    }

    public boolean send(int process, int r, int to) {
        Proc p = find(process, r);
        if (!alive.containsKey(to)) {
            return false;
        }
        state(give(p, p.registers[r], alive.get(to)));
        return true;
    }

    public int broadcast(int process, int r) {
        Proc p = find(process, r);
        int got = 0;
        for (Proc other : alive.values()) {
            if (other != p && give(p, p.registers[r], other)) {
                got++;
            }
        }
        return got;
    }

    public int receive(int process, int r) {
        Proc p = find(process, r);
        state(!p.mailbox.isEmpty());
        p.registers[r] = p.mailbox.removeFirst();
        return p.mailbox.size();
    }

    public int collect(int process) {
        Proc p = find(process);
        int before = p.used();
        clean(p);
        return before - p.used();
    }

    public int trim(int process) {
        Proc p = find(process);
        clean(p);
        p.capacity = 8;
        while (p.capacity < p.used()) {
            p.capacity += 8;
        }
        return p.capacity;
    }

    public int count(int which) {
        argument(which >= 0 && which <= 4);
        return switch (which) {
            case 0 -> alive.size();
            case 1 -> free();
            case 2 -> handleCounts().size();
            case 3 -> latest;
            default -> collections;
        };
    }

    public int of(int process, int which) {
        Proc p = find(process);
        argument(which >= 0 && which <= 2);
        return which == 0 ? p.capacity : which == 1 ? p.used() : p.mailbox.size();
    }

    public int kind(int process, int r) {
        return find(process, r).registers[r].kind;
    }

    public int value(int process, int r) {
        return find(process, r).registers[r].value;
    }

    public int address(int process, int r) {
        Proc p = find(process, r);
        int address = 0;
        for (Term term : p.heap) {
            if (term == p.registers[r]) {
                return address;
            }
            address += term.length();
        }
        return -1;
    }

    public int words(int process, int r) {
        return lengths(reached(List.of(find(process, r).registers[r])));
    }

    public int handles(int process, int r) {
        Term term = find(process, r).registers[r];
        return term.kind == 5 ? handleCounts().get(term.blob) : 0;
    }

    public boolean equal(int process, int r, int other, int s) {
        return same(find(process, r).registers[r], find(other, s).registers[s], new int[1]);
    }

    private static boolean same(Term a, Term b, int[] looked) {
        if (++looked[0] > 2000) {
            throw new UnsupportedOperationException();
        }
        if (a.kind != b.kind || a.value != b.value || a.blob != b.blob) {
            return false;
        }
        for (int k = 0; k < a.parts.size(); k++) {
            if (!same(a.parts.get(k), b.parts.get(k), looked)) {
                return false;
            }
        }
        return true;
    }
}
