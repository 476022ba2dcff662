import java.util.Arrays;

/** A heap of urns that is kept clean by a sexton, in rounds of as small parts as one likes. */
public final class UrnHeap {
    public static final int NONE = -11;
    public static final int BAD = -12;
    public static final int FULL = -13;
    public static final int REFUSED = -14;
    public static final int NOTHING = -15;

    private static final int CELLS = 24;
    private static final int SLOTS = 4;
    private static final int NAMES = 6;
    private static final int LATE = 12;
    private static final int UNDOS = 8;
    private static final int MOST_PARTS = 99;
    private static final int MOST_SIGNS = 60;
    private static final int WRONG_TEXT = -1000;

    private static final int EMPTY = -1;
    private static final int WHITE = 0;
    private static final int GREY = 1;
    private static final int BLACK = 2;

    private static final int NO_RITE = 0;
    private static final int RITE_TO_DO = 1;
    private static final int RITE_DUE = 2;

    private static final int RESTS = 0;
    private static final int MARKS = 1;
    private static final int SWEEPS = 2;

    private static final int NO_EMPTY_CELL = 1;
    private static final int NO_THREAD = 2;
    private static final int NAME_IS_FREE = 3;
    private static final int ROUND_GOES_ON = 4;
    private static final int NO_ROUND = 5;
    private static final int NO_RITE_DUE = 6;
    private static final int TO_BE_SWEPT = 7;
    private static final int ORDER_FAILS = 8;

    private final Heap heap;
    private final Refusals refusals;
    private final Hands hands;
    private final Sexton sexton;
    private final Paths paths;
    private final History history;
    private final Orders orders;
    private final Line line;

    public UrnHeap() {
        Heap newHeap = new Heap();
        Refusals newRefusals = new Refusals();
        heap = newHeap;
        refusals = newRefusals;
        hands = new Hands(newHeap, newRefusals);
        sexton = new Sexton(newHeap, newRefusals);
        paths = new Paths(newHeap);
        history = new History(newHeap);
        orders = new Orders();
        line = new Line();
    }

    // ---- urns, threads, names

    public int urn(boolean isRite) {
        history.keepBefore();
        return history.settle(hands.makeUrn(isRite));
    }

    public int tie(int urn, int slot, int other) {
        history.keepBefore();
        return history.settle(hands.tieThread(urn, slot, other));
    }

    public int untie(int urn, int slot) {
        history.keepBefore();
        return history.settle(hands.takeThread(urn, slot));
    }

    public int weak(int urn, int other) {
        history.keepBefore();
        return history.settle(hands.tieWeak(urn, other));
    }

    public int unweak(int urn) {
        history.keepBefore();
        return history.settle(hands.takeWeak(urn));
    }

    public int name(int name, int urn) {
        history.keepBefore();
        return history.settle(hands.giveName(name, urn));
    }

    public int drop(int name) {
        history.keepBefore();
        return history.settle(hands.takeName(name));
    }

    public int urnOf(int urn, int what) {
        if (!heap.hasUrn(urn)) {
            return NONE;
        }
        switch (what) {
            case 0:
                return heap.colours[urn];
            case 1:
                return heap.rites[urn];
            case 2:
                return heap.threadsFrom(urn);
            case 3:
                return heap.holdersOf(urn);
            case 4:
                return heap.weaks[urn];
            case 5:
                return heap.madeIn[urn];
            default:
                return BAD;
        }
    }

    public int threadOf(int urn, int slot) {
        if (!heap.hasUrn(urn) || !isSlot(slot)) {
            return NONE;
        }
        return heap.target(urn, slot);
    }

    public int named(int name) {
        return isName(name) ? heap.names[name] : NONE;
    }

    // ---- rounds, rites

    public int begin() {
        history.keepBefore();
        return history.settle(sexton.beginRound());
    }

    public int step(int parts) {
        history.keepBefore();
        return history.settle(sexton.doParts(parts));
    }

    public int round() {
        history.keepBefore();
        return history.settle(sexton.endRound());
    }

    public int rite() {
        history.keepBefore();
        return history.settle(sexton.doRite());
    }

    public int due(int place) {
        return heap.dues.at(place);
    }

    public int grey(int place) {
        return heap.greys.at(place);
    }

    public int freed(int place) {
        return heap.freedLate(place);
    }

    // ---- what can be come to

    public int live() {
        return paths.reach();
    }

    public int liveAgain() {
        return paths.reachUrnByUrn();
    }

    public int depth(int urn) {
        return heap.hasUrn(urn) ? paths.distance(paths.roots(NOTHING), urn) : NONE;
    }

    public int keepers(int urn) {
        return heap.hasUrn(urn) ? paths.neededNames(urn) : NONE;
    }

    public int ring(int urn) {
        return heap.hasUrn(urn) ? paths.ringLength(urn) : NONE;
    }

    public int wouldFree() {
        return paths.leftOver();
    }

    public int ranked(int place) {
        return paths.urnAtRank(place);
    }

    // ---- texts, lines

    public int append(int code) {
        return orders.addSign(code);
    }

    public int run() {
        int fault = orders.read();
        orders.clearText();
        if (fault != NOTHING) {
            return WRONG_TEXT - fault;
        }
        history.keepBefore();
        for (int order = 0; order < orders.count; order++) {
            if (History.isRefusal(carryOut(order))) {
                history.takeBack();
                return refusals.refuse(ORDER_FAILS, order);
            }
        }
        return history.settle(orders.count);
    }

    public int tell(int urn) {
        return heap.hasUrn(urn) ? line.writeUrn(heap, urn) : NONE;
    }

    public int tellHeap() {
        return line.writeHeap(heap);
    }

    public int character(int index) {
        return line.signAt(index);
    }

    // ---- reasons, accounts, undo and the snapshot

    public int reason(boolean isDetail) {
        return isDetail ? refusals.detail : refusals.reason;
    }

    public int account(int what) {
        switch (what) {
            case 0:
                return heap.roundsOver;
            case 1:
                return heap.phase;
            case 2:
                return heap.nextSwept;
            case 3:
                return heap.urns();
            case 4:
                return heap.urnsOf(WHITE);
            case 5:
                return heap.urnsOf(GREY);
            case 6:
                return heap.urnsOf(BLACK);
            case 7:
                return heap.urnsMade;
            case 8:
                return heap.urnsFreed;
            case 9:
                return heap.dues.size;
            case 10:
                return heap.ritesDone;
            case 11:
                return heap.weaksCut;
            case 12:
                return heap.namesInUse();
            case 13:
                return heap.partsDone;
            case 14:
                return orders.signs();
            case 15:
                return history.changes;
            default:
                return BAD;
        }
    }

    public int isBalanced() {
        return heap.isSound() ? 1 : 0;
    }

    public double meanHeld() {
        int urns = heap.urns();
        return urns == 0 ? 0.0 : (double) heap.holdersOfAll() / (double) urns;
    }

    public float liveShare() {
        int urns = heap.urns();
        return urns == 0 ? 0.0f : (float) Integer.bitCount(paths.reach()) / (float) urns;
    }

    public int undo() {
        return history.undoLatest();
    }

    public int save() {
        return history.saveNow();
    }

    public int restore() {
        return history.restoreSaved();
    }

    private int carryOut(int order) {
        if (!orders.has(order)) {
            return NONE;
        }
        int first = orders.firsts[order];
        int second = orders.seconds[order];
        switch (orders.kinds[order]) {
            case URN:
                return hands.makeUrn(false);
            case URN_WITH_RITE:
                return hands.makeUrn(true);
            case TIE:
                return hands.tieThread(first, second, orders.thirds[order]);
            case UNTIE:
                return hands.takeThread(first, second);
            case NAME:
                return hands.giveName(first, second);
            case DROP:
                return hands.takeName(first);
            case WEAK:
                return hands.tieWeak(first, second);
            case ROUND:
                return sexton.endRound();
            case STEP:
                return sexton.doParts(first);
            case RITE:
                return sexton.doRite();
            default:
                return NONE;
        }
    }

    private static boolean isCell(int cell) {
        return cell >= 0 && cell < CELLS;
    }

    private static boolean isSlot(int slot) {
        return slot >= 0 && slot < SLOTS;
    }

    private static boolean isName(int name) {
        return name >= 0 && name < NAMES;
    }

    /** Urns that wait in the order in which they came. */
    private static final class Row {
        final int[] urns = new int[CELLS];
        int size = 0;

        void addLast(int urn) {
            if (size < urns.length) {
                urns[size] = urn;
                size++;
            }
        }

        int takeFirst() {
            if (size <= 0) {
                return NOTHING;
            }
            int first = urns[0];
            size--;
            System.arraycopy(urns, 1, urns, 0, size);
            return first;
        }

        int at(int place) {
            return place >= 0 && place < size && place < urns.length ? urns[place] : NONE;
        }

        void copyFrom(Row other) {
            System.arraycopy(other.urns, 0, urns, 0, CELLS);
            size = other.size;
        }
    }

    /** All that changes can change, so that a copy of it is all that undo and the snapshot need. */
    private static final class Heap {
        // A thread, weak thread or name that is to no urn is NOTHING, as the face answers it.
        final int[] threads = new int[CELLS * SLOTS];
        final int[] weaks = new int[CELLS];
        final int[] rites = new int[CELLS];
        final int[] colours = new int[CELLS];
        final int[] madeIn = new int[CELLS];
        final int[] names = new int[NAMES];
        final int[] late = new int[LATE];
        final Row greys = new Row();
        final Row dues = new Row();
        int phase = RESTS;
        int nextSwept = 0;
        int roundsOver = 0;
        int urnsMade = 0;
        int urnsFreed = 0;
        int ritesDone = 0;
        int weaksCut = 0;
        int partsDone = 0;

        Heap() {
            Arrays.fill(threads, NOTHING);
            Arrays.fill(weaks, NOTHING);
            Arrays.fill(names, NOTHING);
            Arrays.fill(colours, EMPTY);
        }

        void copyFrom(Heap other) {
            System.arraycopy(other.threads, 0, threads, 0, CELLS * SLOTS);
            System.arraycopy(other.weaks, 0, weaks, 0, CELLS);
            System.arraycopy(other.rites, 0, rites, 0, CELLS);
            System.arraycopy(other.colours, 0, colours, 0, CELLS);
            System.arraycopy(other.madeIn, 0, madeIn, 0, CELLS);
            System.arraycopy(other.names, 0, names, 0, NAMES);
            System.arraycopy(other.late, 0, late, 0, LATE);
            greys.copyFrom(other.greys);
            dues.copyFrom(other.dues);
            phase = other.phase;
            nextSwept = other.nextSwept;
            roundsOver = other.roundsOver;
            urnsMade = other.urnsMade;
            urnsFreed = other.urnsFreed;
            ritesDone = other.ritesDone;
            weaksCut = other.weaksCut;
            partsDone = other.partsDone;
        }

        boolean hasUrn(int cell) {
            return cell >= 0 && cell < CELLS && colours[cell] != EMPTY;
        }

        boolean isWhite(int cell) {
            return cell >= 0 && cell < CELLS && colours[cell] == WHITE;
        }

        boolean isToBeSwept(int urn) {
            return phase == SWEEPS && isWhite(urn) && urn >= nextSwept;
        }

        int target(int urn, int slot) {
            return isCell(urn) && isSlot(slot) ? threads[urn * SLOTS + slot] : NOTHING;
        }

        int urns() {
            return CELLS - urnsOf(EMPTY);
        }

        int urnsOf(int colour) {
            int count = 0;
            for (int cell = 0; cell < CELLS; cell++) {
                if (colours[cell] == colour) {
                    count++;
                }
            }
            return count;
        }

        int namesInUse() {
            int count = 0;
            for (int name = 0; name < NAMES; name++) {
                if (names[name] != NOTHING) {
                    count++;
                }
            }
            return count;
        }

        int threadsFrom(int urn) {
            int count = 0;
            for (int slot = 0; slot < SLOTS; slot++) {
                if (target(urn, slot) != NOTHING) {
                    count++;
                }
            }
            return count;
        }

        int holdersOf(int urn) {
            int count = 0;
            for (int thread = 0; thread < threads.length; thread++) {
                if (threads[thread] == urn) {
                    count++;
                }
            }
            for (int name = 0; name < NAMES; name++) {
                if (names[name] == urn) {
                    count++;
                }
            }
            return count;
        }

        int holdersOfAll() {
            int sum = 0;
            for (int cell = 0; cell < CELLS; cell++) {
                if (hasUrn(cell)) {
                    sum += holdersOf(cell);
                }
            }
            return sum;
        }

        int freedLate(int place) {
            if (place < 0 || place >= LATE || place >= urnsFreed) {
                return NONE;
            }
            return late[(urnsFreed - 1 - place) % LATE];
        }

        void makeGrey(int urn) {
            if (isWhite(urn)) {
                colours[urn] = GREY;
                greys.addLast(urn);
            }
        }

        void makeGreyInRound(int urn) {
            if (phase == MARKS) {
                makeGrey(urn);
            }
        }

        void free(int cell) {
            if (!hasUrn(cell)) {
                return;
            }
            colours[cell] = EMPTY;
            rites[cell] = NO_RITE;
            weaks[cell] = NOTHING;
            for (int slot = 0; slot < SLOTS; slot++) {
                threads[cell * SLOTS + slot] = NOTHING;
            }
            for (int thread = 0; thread < threads.length; thread++) {
                if (threads[thread] == cell) {
                    threads[thread] = NOTHING;
                }
            }
            late[Math.floorMod(urnsFreed, LATE)] = cell;
            urnsFreed++;
        }

        boolean isSound() {
            return urnsMade == urns() + urnsFreed
                    && areUrns(threads) && areUrns(weaks) && areUrns(names)
                    && (phase != MARKS || !hasBlackToWhite());
        }

        private boolean areUrns(int[] holds) {
            for (int held : holds) {
                if (held != NOTHING && !hasUrn(held)) {
                    return false;
                }
            }
            return true;
        }

        private boolean hasBlackToWhite() {
            for (int thread = 0; thread < threads.length; thread++) {
                if (colours[thread / SLOTS] == BLACK && isWhite(threads[thread])) {
                    return true;
                }
            }
            return false;
        }
    }

    /** The latest reason stands apart from the heap, as it is neither undone nor saved. */
    private static final class Refusals {
        int reason = NOTHING;
        int detail = NOTHING;

        int refuse(int newReason, int newDetail) {
            reason = newReason;
            detail = newDetail;
            return REFUSED;
        }
    }

    /** What is done to urns, threads and names from outside of the rounds. */
    private static final class Hands {
        private final Heap heap;
        private final Refusals refusals;

        Hands(Heap heap, Refusals refusals) {
            this.heap = heap;
            this.refusals = refusals;
        }

        int makeUrn(boolean isRite) {
            for (int cell = 0; cell < CELLS; cell++) {
                if (!heap.hasUrn(cell)) {
                    heap.colours[cell] = colourOfNew(cell);
                    heap.rites[cell] = isRite ? RITE_TO_DO : NO_RITE;
                    heap.madeIn[cell] = heap.roundsOver;
                    heap.urnsMade++;
                    return cell;
                }
            }
            return refusals.refuse(NO_EMPTY_CELL, CELLS);
        }

        // A new urn is black so that the round that goes on does not free it.
        private int colourOfNew(int cell) {
            boolean isAhead = heap.phase == SWEEPS && cell >= heap.nextSwept;
            return heap.phase == MARKS || isAhead ? BLACK : WHITE;
        }

        int tieThread(int urn, int slot, int other) {
            if (!heap.hasUrn(urn) || !isSlot(slot) || !heap.hasUrn(other)) {
                return NONE;
            }
            if (heap.isToBeSwept(urn)) {
                return refusals.refuse(TO_BE_SWEPT, urn);
            }
            if (heap.isToBeSwept(other)) {
                return refusals.refuse(TO_BE_SWEPT, other);
            }
            int before = heap.target(urn, slot);
            heap.threads[urn * SLOTS + slot] = other;
            if (heap.colours[urn] == BLACK) {
                heap.makeGreyInRound(other);
            }
            return before;
        }

        int takeThread(int urn, int slot) {
            if (!heap.hasUrn(urn) || !isSlot(slot)) {
                return NONE;
            }
            int before = heap.target(urn, slot);
            if (before == NOTHING) {
                return refusals.refuse(NO_THREAD, slot);
            }
            heap.threads[urn * SLOTS + slot] = NOTHING;
            return before;
        }

        int tieWeak(int urn, int other) {
            if (!heap.hasUrn(urn) || !heap.hasUrn(other)) {
                return NONE;
            }
            if (heap.isToBeSwept(urn)) {
                return refusals.refuse(TO_BE_SWEPT, urn);
            }
            if (heap.isToBeSwept(other)) {
                return refusals.refuse(TO_BE_SWEPT, other);
            }
            int before = heap.weaks[urn];
            heap.weaks[urn] = other;
            return before;
        }

        int takeWeak(int urn) {
            if (!heap.hasUrn(urn)) {
                return NONE;
            }
            int before = heap.weaks[urn];
            if (before == NOTHING) {
                return refusals.refuse(NO_THREAD, SLOTS);
            }
            heap.weaks[urn] = NOTHING;
            return before;
        }

        int giveName(int name, int urn) {
            if (!isName(name) || !heap.hasUrn(urn)) {
                return NONE;
            }
            if (heap.isToBeSwept(urn)) {
                return refusals.refuse(TO_BE_SWEPT, urn);
            }
            int before = heap.names[name];
            heap.names[name] = urn;
            heap.makeGreyInRound(urn);
            return before;
        }

        int takeName(int name) {
            if (!isName(name)) {
                return NONE;
            }
            int before = heap.names[name];
            if (before == NOTHING) {
                return refusals.refuse(NAME_IS_FREE, name);
            }
            heap.names[name] = NOTHING;
            return before;
        }
    }

    /** Does the rounds and the rites. */
    private static final class Sexton {
        private final Heap heap;
        private final Refusals refusals;

        Sexton(Heap heap, Refusals refusals) {
            this.heap = heap;
            this.refusals = refusals;
        }

        int beginRound() {
            if (heap.phase != RESTS) {
                return refusals.refuse(ROUND_GOES_ON, heap.phase);
            }
            markRoots();
            return heap.greys.size;
        }

        int doParts(int parts) {
            if (parts < 1 || parts > MOST_PARTS) {
                return BAD;
            }
            if (heap.phase == RESTS) {
                return refusals.refuse(NO_ROUND, heap.roundsOver);
            }
            return doPartsUntilOver(parts);
        }

        int endRound() {
            if (heap.phase == RESTS) {
                markRoots();
            }
            int before = heap.urnsFreed;
            // A round has at most 24 parts that blacken, 24 that make urns grey, one that
            // begins to sweep, and 24 that sweep: fewer than the most of one step.
            doPartsUntilOver(MOST_PARTS);
            return heap.urnsFreed - before;
        }

        int doRite() {
            int urn = heap.dues.takeFirst();
            if (!isCell(urn)) {
                return refusals.refuse(NO_RITE_DUE, heap.ritesDone);
            }
            heap.rites[urn] = NO_RITE;
            heap.ritesDone++;
            return urn;
        }

        private void markRoots() {
            heap.phase = MARKS;
            for (int name = 0; name < NAMES; name++) {
                heap.makeGrey(heap.names[name]);
            }
            for (int place = 0; place < heap.dues.size; place++) {
                heap.makeGrey(heap.dues.at(place));
            }
        }

        private int doPartsUntilOver(int most) {
            int done = 0;
            while (done < most && heap.phase != RESTS) {
                if (heap.phase == SWEEPS) {
                    sweepNext();
                } else if (heap.greys.size > 0) {
                    blackenFirst();
                } else if (!makeRitesDue()) {
                    beginSweep();
                }
                heap.partsDone++;
                done++;
            }
            return done;
        }

        private void blackenFirst() {
            int urn = heap.greys.takeFirst();
            if (!isCell(urn)) {
                return;
            }
            heap.colours[urn] = BLACK;
            for (int slot = 0; slot < SLOTS; slot++) {
                heap.makeGrey(heap.target(urn, slot));
            }
        }

        private boolean makeRitesDue() {
            boolean isAny = false;
            for (int cell = 0; cell < CELLS; cell++) {
                if (heap.isWhite(cell) && heap.rites[cell] == RITE_TO_DO) {
                    heap.makeGrey(cell);
                    heap.rites[cell] = RITE_DUE;
                    heap.dues.addLast(cell);
                    isAny = true;
                }
            }
            return isAny;
        }

        private void beginSweep() {
            for (int cell = 0; cell < CELLS; cell++) {
                if (heap.isWhite(heap.weaks[cell])) {
                    heap.weaks[cell] = NOTHING;
                    heap.weaksCut++;
                }
            }
            heap.phase = SWEEPS;
            heap.nextSwept = 0;
        }

        private void sweepNext() {
            int cell = heap.nextSwept;
            if (heap.isWhite(cell)) {
                heap.free(cell);
            } else if (heap.hasUrn(cell)) {
                heap.colours[cell] = WHITE;
            }
            heap.nextSwept = cell + 1;
            if (heap.nextSwept >= CELLS) {
                heap.nextSwept = 0;
                heap.phase = RESTS;
                heap.roundsOver++;
            }
        }
    }

    /** What can be come to; sets of urns are numbers with bit k for the urn k. */
    private static final class Paths {
        private final Heap heap;
        private final int[] weights = new int[CELLS];

        Paths(Heap heap) {
            this.heap = heap;
        }

        int reach() {
            return reachFrom(roots(NOTHING));
        }

        /** The urns that are held from outside, one name left out, or none with NOTHING. */
        int roots(int nameLeftOut) {
            int set = rootsByRite(RITE_DUE);
            for (int name = 0; name < NAMES; name++) {
                if (name != nameLeftOut) {
                    set |= bit(heap.names[name]);
                }
            }
            return set;
        }

        int reachUrnByUrn() {
            int set = roots(NOTHING);
            boolean isAdded = true;
            for (int pass = 0; pass <= CELLS && isAdded; pass++) {
                isAdded = false;
                for (int urn = 0; urn < CELLS; urn++) {
                    if (!isIn(set, urn) && isHeldBySome(set, urn)) {
                        set |= bit(urn);
                        isAdded = true;
                    }
                }
            }
            return set;
        }

        int distance(int from, int urn) {
            int seen = from;
            int ring = from;
            for (int steps = 0; steps < CELLS && ring != 0; steps++) {
                if (isIn(ring, urn)) {
                    return steps;
                }
                ring = targetsOfAll(ring) & ~seen;
                seen |= ring;
            }
            return NOTHING;
        }

        int neededNames(int urn) {
            int needed = 0;
            if (!isIn(reach(), urn)) {
                return needed;
            }
            for (int name = 0; name < NAMES; name++) {
                if (!isIn(reachFrom(roots(name)), urn)) {
                    needed |= 1 << name;
                }
            }
            return needed;
        }

        int ringLength(int urn) {
            int steps = distance(targets(urn), urn);
            return steps == NOTHING ? NOTHING : steps + 1;
        }

        // A rite that is still to be done keeps its urn through one round: either the urn is
        // come to, or the rite becomes due in that round.
        int leftOver() {
            int kept = reachFrom(roots(NOTHING) | rootsByRite(RITE_TO_DO));
            int left = 0;
            for (int cell = 0; cell < CELLS; cell++) {
                if (heap.hasUrn(cell) && !isIn(kept, cell)) {
                    left |= bit(cell);
                }
            }
            return left;
        }

        int urnAtRank(int place) {
            weighAll();
            for (int urn = 0; urn < CELLS; urn++) {
                if (heap.hasUrn(urn) && heavierThan(weights[urn]) == place) {
                    return urn;
                }
            }
            return NONE;
        }

        // One number for the three orders, the first one in the highest digits; no two urns
        // weigh the same, as their cells differ.
        private void weighAll() {
            for (int urn = 0; urn < CELLS; urn++) {
                int held = heap.holdersOf(urn);
                int holds = heap.threadsFrom(urn);
                weights[urn] = heap.hasUrn(urn) ? (held * (SLOTS + 1) + holds) * CELLS + CELLS - urn : 0;
            }
        }

        private int heavierThan(int weight) {
            int count = 0;
            for (int other : weights) {
                if (other > weight) {
                    count++;
                }
            }
            return count;
        }

        private int rootsByRite(int rite) {
            int set = 0;
            for (int cell = 0; cell < CELLS; cell++) {
                if (heap.hasUrn(cell) && heap.rites[cell] == rite) {
                    set |= bit(cell);
                }
            }
            return set;
        }

        private int reachFrom(int from) {
            int seen = from;
            int open = from;
            for (int round = 0; round < CELLS && open != 0; round++) {
                open = targetsOfAll(open) & ~seen;
                seen |= open;
            }
            return seen;
        }

        private int targetsOfAll(int set) {
            int all = 0;
            for (int urn = 0; urn < CELLS; urn++) {
                if (isIn(set, urn)) {
                    all |= targets(urn);
                }
            }
            return all;
        }

        private int targets(int urn) {
            int set = 0;
            for (int slot = 0; slot < SLOTS; slot++) {
                set |= bit(heap.target(urn, slot));
            }
            return set;
        }

        private boolean isHeldBySome(int set, int urn) {
            for (int thread = 0; thread < heap.threads.length; thread++) {
                if (heap.threads[thread] == urn && isIn(set, thread / SLOTS)) {
                    return true;
                }
            }
            return false;
        }

        private static int bit(int urn) {
            return isCell(urn) ? 1 << urn : 0;
        }

        private static boolean isIn(int set, int urn) {
            return (set & bit(urn)) != 0;
        }
    }

    /** Copies of the heap: one before each change that can be undone, and the snapshot. */
    private static final class History {
        private final Heap now;
        // One more than can be undone, so that a change that is refused costs no older one.
        private final Heap[] past = new Heap[UNDOS + 1];
        private final Heap saved = new Heap();
        private boolean isSaved = false;
        private int next = 0;
        int changes = 0;

        History(Heap now) {
            this.now = now;
            for (int place = 0; place < past.length; place++) {
                past[place] = new Heap();
            }
        }

        static boolean isRefusal(int result) {
            return result == NONE || result == BAD || result == REFUSED;
        }

        void keepBefore() {
            Heap kept = copyAtNext();
            if (kept != null) {
                kept.copyFrom(now);
            }
        }

        void takeBack() {
            Heap kept = copyAtNext();
            if (kept != null) {
                now.copyFrom(kept);
            }
        }

        int settle(int result) {
            if (!isRefusal(result)) {
                next = next < UNDOS ? next + 1 : 0;
                changes = Math.min(changes + 1, UNDOS);
            }
            return result;
        }

        int undoLatest() {
            if (changes == 0) {
                return NOTHING;
            }
            next = next > 0 ? next - 1 : UNDOS;
            takeBack();
            changes--;
            return changes;
        }

        int saveNow() {
            saved.copyFrom(now);
            isSaved = true;
            return now.urns();
        }

        int restoreSaved() {
            if (!isSaved) {
                return NOTHING;
            }
            now.copyFrom(saved);
            changes = 0;
            return now.urns();
        }

        private Heap copyAtNext() {
            return next >= 0 && next < past.length ? past[next] : null;
        }
    }

    /** The orders by their forms: # is an urn or parts, $ a slot, @ the letter of a name. */
    private enum Kind {
        URN("urn"),
        URN_WITH_RITE("urn!"),
        TIE("tie #.$=#"),
        UNTIE("untie #.$"),
        NAME("name @=#"),
        DROP("drop @"),
        WEAK("weak #=#"),
        ROUND("round"),
        STEP("step #"),
        RITE("rite");

        private static final Kind[] ALL = values();

        final String form;

        Kind(String form) {
            this.form = form;
        }
    }

    /** The text, and the orders that were read from it last. */
    private static final class Orders {
        private static final int MOST_NUMBERS = 3;

        private final StringBuilder text = new StringBuilder();
        final Kind[] kinds = new Kind[MOST_SIGNS];
        final int[] firsts = new int[MOST_SIGNS];
        final int[] seconds = new int[MOST_SIGNS];
        final int[] thirds = new int[MOST_SIGNS];
        int count = 0;
        private final int[] numbers = new int[MOST_NUMBERS];
        private int at = 0;

        int addSign(int code) {
            if (code < 32 || code > 126) {
                return BAD;
            }
            if (text.length() >= MOST_SIGNS) {
                return FULL;
            }
            text.append((char) code);
            return text.length();
        }

        int signs() {
            return text.length();
        }

        void clearText() {
            text.setLength(0);
        }

        boolean has(int order) {
            return order >= 0 && order < count && order < kinds.length && kinds[order] != null;
        }

        /** Answers the fault position, or NOTHING if the text is right. */
        int read() {
            count = 0;
            int from = 0;
            for (int order = 0; order < kinds.length; order++) {
                int fault = readOrder(from);
                if (fault != NOTHING) {
                    return fault;
                }
                if (at >= text.length()) {
                    return NOTHING;
                }
                from = at + 1;
            }
            return from;
        }

        // The form that goes on longest tells where no text can go on.
        private int readOrder(int from) {
            int farthest = from;
            for (int kind = 0; kind < Kind.ALL.length; kind++) {
                at = from;
                if (fits(Kind.ALL[kind].form) && isOrderEnd()) {
                    keep(Kind.ALL[kind]);
                    return NOTHING;
                }
                farthest = Math.max(farthest, at);
            }
            return farthest;
        }

        private boolean fits(String form) {
            int found = 0;
            for (int sign = 0; sign < form.length(); sign++) {
                char wanted = form.charAt(sign);
                int value = readSign(wanted);
                if (value < 0) {
                    return false;
                }
                if (isForNumber(wanted) && found < numbers.length) {
                    numbers[found] = value;
                    found++;
                }
            }
            return true;
        }

        private boolean isOrderEnd() {
            return at >= text.length() || text.charAt(at) == ';';
        }

        private void keep(Kind kind) {
            if (count < kinds.length) {
                kinds[count] = kind;
                firsts[count] = numbers[0];
                seconds[count] = numbers[1];
                thirds[count] = numbers[2];
                count++;
            }
        }

        private static boolean isForNumber(char wanted) {
            return wanted == '#' || wanted == '$' || wanted == '@';
        }

        /** Answers the value of what is wanted, and goes behind it; -1 if it is not there. */
        private int readSign(char wanted) {
            int value = valueAt(at, wanted);
            if (value < 0) {
                return -1;
            }
            at++;
            int second = wanted == '#' ? valueAt(at, wanted) : -1;
            if (second >= 0) {
                at++;
                value = value * 10 + second;
            }
            return value;
        }

        private int valueAt(int index, char wanted) {
            if (index < 0 || index >= text.length()) {
                return -1;
            }
            char sign = text.charAt(index);
            if (wanted == '#' || wanted == '$') {
                return sign >= '0' && sign <= '9' ? sign - '0' : -1;
            }
            if (wanted == '@') {
                return sign >= 'a' && sign < 'a' + NAMES ? sign - 'a' : -1;
            }
            return sign == wanted ? 0 : -1;
        }
    }

    /** The line that was written last. */
    private static final class Line {
        private final StringBuilder signs = new StringBuilder();

        int writeUrn(Heap heap, int urn) {
            signs.setLength(0);
            signs.append(urn);
            writeRite(heap, urn);
            for (int slot = 0; slot < SLOTS; slot++) {
                signs.append(slot == 0 ? ':' : ',');
                writeTarget(heap.target(urn, slot));
            }
            int weak = isCell(urn) ? heap.weaks[urn] : NOTHING;
            if (weak != NOTHING) {
                signs.append('~').append(weak);
            }
            return signs.length();
        }

        int writeHeap(Heap heap) {
            signs.setLength(0);
            for (int cell = 0; cell < CELLS; cell++) {
                signs.append(letterOf(heap.colours[cell]));
            }
            return signs.length();
        }

        int signAt(int index) {
            return index >= 0 && index < signs.length() ? signs.charAt(index) : NONE;
        }

        private void writeRite(Heap heap, int urn) {
            int rite = isCell(urn) ? heap.rites[urn] : NO_RITE;
            if (rite == RITE_TO_DO) {
                signs.append('!');
            } else if (rite == RITE_DUE) {
                signs.append('?');
            }
        }

        private void writeTarget(int target) {
            if (target == NOTHING) {
                signs.append('-');
            } else {
                signs.append(target);
            }
        }

        private static char letterOf(int colour) {
            switch (colour) {
                case WHITE:
                    return 'w';
                case GREY:
                    return 'g';
                case BLACK:
                    return 'b';
                default:
                    return '.';
            }
        }
    }
}
