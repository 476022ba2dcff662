import java.lang.reflect.Field;

/**
 * isBalanced answers 1 in every state that calls can bring about. Here the heap inside is put out of
 * balance by hand, so that it is seen to answer 0 for each thing that the document asks of it.
 */
public final class BalanceTest {
    private static final int CELLS = 24;
    private static final int SLOTS = 4;
    private static final int NAMES = 6;
    private static final int NOTHING = -15;

    private static int wrong = 0;
    private static int checks = 0;

    public static void main(String[] args) throws ReflectiveOperationException {
        urnsAreAllAccountedFor();
        eachThreadIsToAnUrn();
        noBlackUrnHoldsAWhiteOne();
        System.out.println("BalanceTest: " + checks + " checks, " + wrong + " wrong");
        if (wrong != 0) {
            System.exit(1);
        }
    }

    private static void urnsAreAllAccountedFor() throws ReflectiveOperationException {
        for (String counter : new String[] {"urnsMade", "urnsFreed"}) {
            for (int more = -1; more <= 1; more++) {
                UrnHeap x = withUrns(5);
                x.name(0, 2);
                x.round();
                Field field = field(x, counter);
                field.setInt(heapOf(x), field.getInt(heapOf(x)) + more);
                due(counter + " and " + more, x, more == 0 ? 1 : 0);
            }
        }
    }

    private static void eachThreadIsToAnUrn() throws ReflectiveOperationException {
        for (int empty : new int[] {0, 12, CELLS - 1}) {
            for (int place = 0; place < CELLS * SLOTS; place++) {
                if (place / SLOTS != empty) {
                    brokenAt("threads", place, empty);
                }
            }
            for (int place = 0; place < CELLS; place++) {
                if (place != empty) {
                    brokenAt("weaks", place, empty);
                }
            }
            for (int place = 0; place < NAMES; place++) {
                brokenAt("names", place, empty);
            }
        }
    }

    private static void brokenAt(String array, int place, int empty) throws ReflectiveOperationException {
        UrnHeap x = withAllUrnsBut(empty);
        due("without " + empty, x, 1);
        int[] holds = (int[]) field(x, array).get(heapOf(x));
        holds[place] = empty;
        due(array + " " + place + " to the empty cell " + empty, x, 0);
        holds[place] = NOTHING;
        due(array + " " + place + " to nothing", x, 1);
        holds[place] = 5;
        due(array + " " + place + " to an urn", x, 1);
    }

    private static UrnHeap withAllUrnsBut(int empty) {
        UrnHeap x = withUrns(CELLS);
        int first = empty == 0 ? 1 : 0;
        int before = first;
        for (int urn = 0; urn < CELLS; urn++) {
            if (urn != empty) {
                x.tie(before, 0, urn);
                before = urn;
            }
        }
        x.name(0, first);
        x.round();
        return x;
    }

    private static void noBlackUrnHoldsAWhiteOne() throws ReflectiveOperationException {
        for (int place = 0; place < CELLS * SLOTS; place++) {
            for (int phase = 0; phase <= 2; phase++) {
                for (int from = 0; from <= 2; from++) {
                    for (int to = 0; to <= 2; to++) {
                        UrnHeap x = withUrns(CELLS);
                        int urn = place / SLOTS;
                        int other = urn == 7 ? 8 : 7;
                        x.tie(urn, place % SLOTS, other);
                        int[] colours = (int[]) field(x, "colours").get(heapOf(x));
                        colours[urn] = from;
                        colours[other] = to;
                        field(x, "phase").setInt(heapOf(x), phase);
                        due("phase " + phase + ", " + place + " from " + from + " to " + to, x,
                                phase == 1 && from == 2 && to == 0 ? 0 : 1);
                    }
                }
            }
        }
    }

    private static UrnHeap withUrns(int urns) {
        UrnHeap x = new UrnHeap();
        for (int i = 0; i < urns; i++) {
            x.urn(false);
        }
        return x;
    }

    private static Object heapOf(UrnHeap x) throws ReflectiveOperationException {
        Field heap = UrnHeap.class.getDeclaredField("heap");
        heap.setAccessible(true);
        return heap.get(x);
    }

    private static Field field(UrnHeap x, String name) throws ReflectiveOperationException {
        Field field = heapOf(x).getClass().getDeclaredField(name);
        field.setAccessible(true);
        return field;
    }

    private static void due(String what, UrnHeap x, int want) {
        checks++;
        int got = x.isBalanced();
        if (got != want) {
            wrong++;
            System.out.println("BalanceTest: " + what + ": isBalanced answered " + got + ", due is " + want);
        }
    }
}
