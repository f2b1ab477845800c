import java.util.ArrayList;
import java.util.Arrays;

/**
 * Processes with heaps of their own, that send each other copies of terms; blobs are shared by all heaps, and counted.
 *
 * <p>A term is one int: its kind in the lowest bits, and above them what it is: an integer, the number of a process, or
 * the address of a structure in the heap of the process that has the term.
 */
public final class CopyHeaps {
    private static final int LEAST_POOL = 40;
    private static final int MOST_POOL = 600;
    private static final int MOST_ALIVE = 8;
    private static final int REGISTERS = 4;
    private static final int HEAP_STEP = 8;
    private static final int MOST_PARTS = 4;
    private static final int MOST_BLOBS = 30;
    private static final int MOST_BLOB_SIZE = 100;
    private static final int LEAST_INTEGER = -(1 << 27);
    private static final int MOST_INTEGER = (1 << 27) - 1;
    private static final int MOST_LOOKED_AT = 2000;
    /** A call brings a mailbox one message at most, and an object is used for 512 calls. */
    private static final int MOST_MESSAGES = 512;

    /** A kind, and the one term of this kind as well. */
    private static final int NIL = 0;
    private static final int INTEGER = 1;
    private static final int NAME = 2;
    private static final int PAIR = 3;
    private static final int TUPLE = 4;
    private static final int HANDLE = 5;
    private static final int KIND_BITS = 3;
    private static final int KIND_MASK = (1 << KIND_BITS) - 1;

    private static final int PAIR_LENGTH = 2;
    private static final int HANDLE_LENGTH = 2;

    private final int poolWords;
    private final Pool pool;
    /** In the order of their numbers. */
    private final ArrayList<HeapProcess> alive;
    /** Ended ones, whose rows the next processes use again. */
    private final ArrayList<HeapProcess> ended;
    private final Carrier carrier;
    private final Comparison comparison;
    /** What a collection carries goes in here; the collected heap is the spare one afterwards. */
    private Heap spare;
    private int latest;
    private int collections;

    public CopyHeaps(int words) {
        poolWords = Math.max(LEAST_POOL, Math.min(MOST_POOL, words));
        pool = new Pool(poolWords);
        alive = new ArrayList<>();
        ended = new ArrayList<>();
        carrier = new Carrier(poolWords);
        comparison = new Comparison(poolWords);
        spare = new Heap(poolWords);
    }

    public int spawn() throws IllegalStateException {
        if (alive.size() >= MOST_ALIVE || pool.free < HEAP_STEP) {
            throw new IllegalStateException();
        }
        HeapProcess fresh = ended.isEmpty() ? new HeapProcess(poolWords) : ended.remove(ended.size() - 1);
        latest++;
        fresh.begin(latest);
        pool.free -= HEAP_STEP;
        alive.add(fresh);
        return latest;
    }

    public int exit(int process) throws IndexOutOfBoundsException {
        HeapProcess ending = living(process);
        int freeBefore = pool.free;
        // Nothing is carried, so that all handles are left behind.
        carrier.start(ending.heap, spare);
        carrier.dropHandlesLeftBehind(pool);
        pool.free += ending.capacity;
        alive.remove(placeOf(process));
        ended.add(ending);
        return pool.free - freeBefore;
    }

    public void nil(int process, int r) throws IndexOutOfBoundsException {
        living(process, r).registers[r] = NIL;
    }

    public void integer(int process, int r, int n) throws IndexOutOfBoundsException, IllegalArgumentException {
        HeapProcess owner = living(process, r);
        if (n < LEAST_INTEGER || n > MOST_INTEGER) {
            throw new IllegalArgumentException();
        }
        owner.registers[r] = termOf(INTEGER, n);
    }

    public void name(int process, int r, int other) throws IndexOutOfBoundsException, IllegalArgumentException {
        HeapProcess owner = living(process, r);
        if (other < 1 || other > latest) {
            throw new IllegalArgumentException();
        }
        owner.registers[r] = termOf(NAME, other);
    }

    public void move(int process, int r, int a) throws IndexOutOfBoundsException {
        HeapProcess owner = living(process, r);
        checkRegister(a);
        owner.registers[r] = owner.registers[a];
    }

    public void pair(int process, int r, int a, int b) throws IndexOutOfBoundsException, IllegalStateException {
        HeapProcess owner = living(process, r);
        checkRegister(a);
        checkRegister(b);
        needRoom(owner, PAIR_LENGTH);
        owner.registers[r] = owner.heap.addPair(owner.registers[a], owner.registers[b]);
    }

    public void tuple(int process, int r, int n)
            throws IndexOutOfBoundsException, IllegalArgumentException, IllegalStateException {
        HeapProcess owner = living(process, r);
        if (n < 0 || n > MOST_PARTS) {
            throw new IllegalArgumentException();
        }
        needRoom(owner, n + 1);
        owner.registers[r] = owner.heap.addTuple(owner.registers, n);
    }

    public void blob(int process, int r, int size)
            throws IndexOutOfBoundsException, IllegalArgumentException, IllegalStateException,
                    UnsupportedOperationException {
        HeapProcess owner = living(process, r);
        if (size < 1 || size > MOST_BLOB_SIZE) {
            throw new IllegalArgumentException();
        }
        needRoom(owner, HANDLE_LENGTH);
        if (pool.free < size || pool.blobs >= MOST_BLOBS) {
            throw new UnsupportedOperationException();
        }
        owner.registers[r] = owner.heap.addHandle(pool.makeBlob(size));
    }

    public void part(int process, int r, int a, int k) throws IndexOutOfBoundsException, IllegalArgumentException {
        HeapProcess owner = living(process, r);
        checkRegister(a);
        int whole = owner.registers[a];
        if (k < 0 || k >= owner.heap.partCount(whole)) {
            throw new IllegalArgumentException();
        }
        owner.registers[r] = owner.heap.partOf(whole, k);
    }

    public boolean send(int process, int r, int to) throws IndexOutOfBoundsException, IllegalStateException {
        HeapProcess sender = living(process, r);
        int place = placeOf(to);
        if (place < 0) {
            return false;
        }
        if (!deliver(sender, sender.registers[r], alive.get(place))) {
            throw new IllegalStateException();
        }
        return true;
    }

    public int broadcast(int process, int r) throws IndexOutOfBoundsException {
        HeapProcess sender = living(process, r);
        int got = 0;
        for (int i = 0; i < alive.size(); i++) {
            HeapProcess receiver = alive.get(i);
            if (receiver != sender && deliver(sender, sender.registers[r], receiver)) {
                got++;
            }
        }
        return got;
    }

    public int receive(int process, int r) throws IndexOutOfBoundsException, IllegalStateException {
        HeapProcess owner = living(process, r);
        if (owner.mailbox.size == 0) {
            throw new IllegalStateException();
        }
        owner.registers[r] = owner.mailbox.takeFirst();
        return owner.mailbox.size;
    }

    public int collect(int process) throws IndexOutOfBoundsException {
        HeapProcess owner = living(process);
        int usedBefore = owner.heap.used;
        collectHeap(owner);
        return usedBefore - owner.heap.used;
    }

    public int trim(int process) throws IndexOutOfBoundsException {
        HeapProcess owner = living(process);
        collectHeap(owner);
        int least = Math.max(HEAP_STEP, inSteps(owner.heap.used));
        pool.free += owner.capacity - least;
        owner.capacity = least;
        return least;
    }

    public int count(int which) throws IllegalArgumentException {
        switch (which) {
            case 0:
                return alive.size();
            case 1:
                return pool.free;
            case 2:
                return pool.blobs;
            case 3:
                return latest;
            case 4:
                return collections;
            default:
                throw new IllegalArgumentException();
        }
    }

    public int of(int process, int which) throws IndexOutOfBoundsException, IllegalArgumentException {
        HeapProcess owner = living(process);
        switch (which) {
            case 0:
                return owner.capacity;
            case 1:
                return owner.heap.used;
            case 2:
                return owner.mailbox.size;
            default:
                throw new IllegalArgumentException();
        }
    }

    public int kind(int process, int r) throws IndexOutOfBoundsException {
        return kindOf(living(process, r).registers[r]);
    }

    public int value(int process, int r) throws IndexOutOfBoundsException {
        HeapProcess owner = living(process, r);
        int term = owner.registers[r];
        switch (kindOf(term)) {
            case INTEGER:
            case NAME:
                return contentOf(term);
            case HANDLE:
                return pool.sizes[owner.heap.blobOf(term)];
            default:
                return owner.heap.partCount(term);
        }
    }

    public int address(int process, int r) throws IndexOutOfBoundsException {
        int term = living(process, r).registers[r];
        return liesInHeap(term) ? contentOf(term) : -1;
    }

    public int words(int process, int r) throws IndexOutOfBoundsException {
        HeapProcess owner = living(process, r);
        return wordsLedTo(owner.heap, owner.registers[r]);
    }

    public int handles(int process, int r) throws IndexOutOfBoundsException {
        HeapProcess owner = living(process, r);
        int term = owner.registers[r];
        return kindOf(term) == HANDLE ? pool.handleCounts[owner.heap.blobOf(term)] : 0;
    }

    public boolean equal(int process, int r, int other, int s)
            throws IndexOutOfBoundsException, UnsupportedOperationException {
        HeapProcess left = living(process, r);
        HeapProcess right = living(other, s);
        comparison.start(left.heap, left.registers[r], right.heap, right.registers[s]);
        boolean same = comparison.findsAllAlike();
        if (same && comparison.isUnfinished()) {
            throw new UnsupportedOperationException();
        }
        return same;
    }

    /** The place among those alive, or -1. */
    private int placeOf(int process) {
        for (int i = 0; i < alive.size(); i++) {
            if (alive.get(i).number == process) {
                return i;
            }
        }
        return -1;
    }

    private HeapProcess living(int process) {
        int place = placeOf(process);
        if (place < 0) {
            throw new IndexOutOfBoundsException();
        }
        return alive.get(place);
    }

    private HeapProcess living(int process, int r) {
        checkRegister(r);
        return living(process);
    }

    private static void checkRegister(int r) {
        if (r < 0 || r >= REGISTERS) {
            throw new IndexOutOfBoundsException();
        }
    }

    private void needRoom(HeapProcess owner, int words) {
        if (!makeRoom(owner, words)) {
            throw new IllegalStateException();
        }
    }

    private boolean makeRoom(HeapProcess owner, int words) {
        if (owner.lacks(words) <= 0) {
            return true;
        }
        collectHeap(owner);
        int growth = inSteps(Math.max(0, owner.lacks(words)));
        if (growth > pool.free) {
            return false;
        }
        pool.free -= growth;
        owner.capacity += growth;
        return true;
    }

    private static int inSteps(int words) {
        return (words + HEAP_STEP - 1) / HEAP_STEP * HEAP_STEP;
    }

    private void collectHeap(HeapProcess owner) {
        Heap old = owner.heap;
        spare.clear();
        carrier.start(old, spare);
        for (int r = 0; r < REGISTERS; r++) {
            owner.registers[r] = carrier.carry(owner.registers[r]);
        }
        for (int i = 0; i < owner.mailbox.size; i++) {
            owner.mailbox.set(i, carrier.carry(owner.mailbox.get(i)));
        }
        carrier.carryPartsOfCarried();
        carrier.dropHandlesLeftBehind(pool);
        owner.heap = spare;
        spare = old;
        collections++;
    }

    private int wordsLedTo(Heap heap, int term) {
        spare.clear();
        carrier.start(heap, spare);
        carrier.carry(term);
        carrier.carryPartsOfCarried();
        return spare.used;
    }

    /** Whether the receiver got it: not if there is no room for it. */
    private boolean deliver(HeapProcess sender, int term, HeapProcess receiver) {
        if (receiver.mailbox.isFull()) {
            return false;
        }
        if (receiver == sender) {
            receiver.mailbox.addLast(term);
            return true;
        }
        if (!makeRoom(receiver, wordsLedTo(sender.heap, term))) {
            return false;
        }
        carrier.start(sender.heap, receiver.heap);
        receiver.mailbox.addLast(carrier.carry(term));
        carrier.carryPartsOfCarried();
        carrier.countHandlesCarried(pool);
        return true;
    }

    private static int termOf(int kind, int content) {
        return content << KIND_BITS | kind;
    }

    private static int kindOf(int term) {
        return term & KIND_MASK;
    }

    private static int contentOf(int term) {
        return term >> KIND_BITS;
    }

    private static boolean liesInHeap(int term) {
        return kindOf(term) >= PAIR;
    }

    /** The words that nobody has, and the blobs. */
    private static final class Pool {
        int free;
        int blobs;
        final int[] sizes = new int[MOST_BLOBS];
        final int[] handleCounts = new int[MOST_BLOBS];

        Pool(int words) {
            free = words;
        }

        /** A blob with one handle, which the caller makes; it has seen that there are fewer than MOST_BLOBS. */
        int makeBlob(int size) {
            int made = 0;
            while (made < MOST_BLOBS - 1 && handleCounts[made] > 0) {
                made++;
            }
            sizes[made] = size;
            handleCounts[made] = 1;
            free -= size;
            blobs++;
            return made;
        }

        void countHandle(int which) {
            handleCounts[which]++;
        }

        void dropHandle(int which) {
            handleCounts[which]--;
            if (handleCounts[which] == 0) {
                free += sizes[which];
                blobs--;
            }
        }
    }

    private static final class HeapProcess {
        int number;
        int capacity;
        Heap heap;
        final int[] registers = new int[REGISTERS];
        final Mailbox mailbox = new Mailbox();

        HeapProcess(int poolWords) {
            heap = new Heap(poolWords);
        }

        void begin(int newNumber) {
            number = newNumber;
            capacity = HEAP_STEP;
            heap.clear();
            Arrays.fill(registers, NIL);
            mailbox.clear();
        }

        int lacks(int words) {
            return heap.used + words - capacity;
        }
    }

    /** A ring of messages, so that none is moved when the first one goes. */
    private static final class Mailbox {
        int size;
        private int first;
        private final int[] messages = new int[MOST_MESSAGES];

        void clear() {
            first = 0;
            size = 0;
        }

        boolean isFull() {
            return size >= MOST_MESSAGES;
        }

        void addLast(int term) {
            size++;
            set(size - 1, term);
        }

        int takeFirst() {
            int term = get(0);
            first = placeInRing(1);
            size--;
            return term;
        }

        int get(int i) {
            return messages[placeInRing(i)];
        }

        void set(int i, int term) {
            messages[placeInRing(i)] = term;
        }

        private int placeInRing(int i) {
            return (first + i) % MOST_MESSAGES;
        }
    }

    /**
     * What lies in a heap. A pair is its two parts, a tuple is how many parts it has and then these, a handle is the
     * blob's place in the pool and a word without use. No heap takes more words than the pool has.
     */
    private static final class Heap {
        int used;
        int structureCount;
        /** The structures as terms, in the order in which they lie here: a pair's words do not tell that it is one. */
        final int[] structures;
        private final int[] cells;

        Heap(int poolWords) {
            structures = new int[poolWords];
            cells = new int[poolWords];
        }

        void clear() {
            used = 0;
            structureCount = 0;
        }

        int addPair(int a, int b) {
            cells[used] = a;
            cells[used + 1] = b;
            return place(termOf(PAIR, used), PAIR_LENGTH);
        }

        int addTuple(int[] parts, int n) {
            cells[used] = n;
            for (int k = 0; k < n; k++) {
                cells[used + 1 + k] = parts[k];
            }
            return place(termOf(TUPLE, used), n + 1);
        }

        int addHandle(int which) {
            cells[used] = which;
            return place(termOf(HANDLE, used), HANDLE_LENGTH);
        }

        int addCopy(Heap other, int structure) {
            int otherAddress = contentOf(structure);
            int length = lengthOf(kindOf(structure), other.cells[otherAddress]);
            System.arraycopy(other.cells, otherAddress, cells, used, length);
            return place(termOf(kindOf(structure), used), length);
        }

        private int place(int structure, int length) {
            structures[structureCount] = structure;
            structureCount++;
            used += length;
            return structure;
        }

        private static int lengthOf(int kind, int firstCell) {
            switch (kind) {
                case PAIR:
                    return PAIR_LENGTH;
                case TUPLE:
                    return firstCell + 1;
                default:
                    return HANDLE_LENGTH;
            }
        }

        int partCount(int term) {
            switch (kindOf(term)) {
                case PAIR:
                    return PAIR_LENGTH;
                case TUPLE:
                    return cells[contentOf(term)];
                default:
                    return 0;
            }
        }

        int partOf(int term, int k) {
            return cells[contentOf(term) + firstPart(term) + k];
        }

        void setPart(int term, int k, int part) {
            cells[contentOf(term) + firstPart(term) + k] = part;
        }

        private static int firstPart(int term) {
            return kindOf(term) == TUPLE ? 1 : 0;
        }

        int blobOf(int handle) {
            return cells[contentOf(handle)];
        }
    }

    /** Carries structures from one heap to behind all that lies in another one, each once. */
    private static final class Carrier {
        private static final int NOT_CARRIED = NIL;

        private Heap from;
        private Heap to;
        private int firstCarried;
        /** By the address in the one heap: the structure in the other one. */
        private final int[] carried;

        Carrier(int poolWords) {
            carried = new int[poolWords];
        }

        void start(Heap newFrom, Heap newTo) {
            from = newFrom;
            to = newTo;
            firstCarried = newTo.structureCount;
            Arrays.fill(carried, NOT_CARRIED);
        }

        int carry(int term) {
            if (!liesInHeap(term)) {
                return term;
            }
            int address = contentOf(term);
            if (carried[address] == NOT_CARRIED) {
                carried[address] = to.addCopy(from, term);
            }
            return carried[address];
        }

        /** What is carried here comes behind the rest, and has its own parts carried in its turn. */
        void carryPartsOfCarried() {
            for (int i = firstCarried; i < to.structures.length && i < to.structureCount; i++) {
                int structure = to.structures[i];
                for (int k = 0; k < to.partCount(structure); k++) {
                    to.setPart(structure, k, carry(to.partOf(structure, k)));
                }
            }
        }

        void countHandlesCarried(Pool pool) {
            for (int i = firstCarried; i < to.structureCount; i++) {
                if (kindOf(to.structures[i]) == HANDLE) {
                    pool.countHandle(to.blobOf(to.structures[i]));
                }
            }
        }

        void dropHandlesLeftBehind(Pool pool) {
            for (int i = 0; i < from.structureCount; i++) {
                int structure = from.structures[i];
                if (kindOf(structure) == HANDLE && carried[contentOf(structure)] == NOT_CARRIED) {
                    pool.dropHandle(from.blobOf(structure));
                }
            }
        }
    }

    /** Looks at pairs of terms, from the first part on, until two differ or too many were looked at. */
    private static final class Comparison {
        private Heap leftHeap;
        private Heap rightHeap;
        private final int[] leftTerms;
        private final int[] rightTerms;
        private int pending;

        /**
         * What is pending behind the first two terms are parts of structures on one way down, where none comes twice:
         * not more than a heap has words.
         */
        Comparison(int poolWords) {
            leftTerms = new int[poolWords];
            rightTerms = new int[poolWords];
        }

        void start(Heap left, int leftTerm, Heap right, int rightTerm) {
            leftHeap = left;
            rightHeap = right;
            pending = 0;
            push(leftTerm, rightTerm);
        }

        boolean findsAllAlike() {
            for (int looked = 0; looked < MOST_LOOKED_AT && pending > 0; looked++) {
                pending--;
                int left = leftTerms[pending];
                int right = rightTerms[pending];
                if (!areAlike(left, right)) {
                    return false;
                }
                pushParts(left, right);
            }
            return true;
        }

        boolean isUnfinished() {
            return pending > 0;
        }

        /** Parts aside. */
        private boolean areAlike(int left, int right) {
            if (kindOf(left) != kindOf(right)) {
                return false;
            }
            if (kindOf(left) == HANDLE) {
                return leftHeap.blobOf(left) == rightHeap.blobOf(right);
            }
            return liesInHeap(left) ? leftHeap.partCount(left) == rightHeap.partCount(right) : left == right;
        }

        /** The last one first, so that the first one is looked at next. */
        private void pushParts(int left, int right) {
            for (int k = leftHeap.partCount(left) - 1; k >= 0; k--) {
                push(leftHeap.partOf(left, k), rightHeap.partOf(right, k));
            }
        }

        private void push(int left, int right) {
            leftTerms[pending] = left;
            rightTerms[pending] = right;
            pending++;
        }
    }
}
