/** For each promise: ordinary inputs, the edges that the document names, and wrong inputs. */
public final class UrnHeapTest {
    private static final int NONE = -11;
    private static final int BAD = -12;
    private static final int FULL = -13;
    private static final int REFUSED = -14;
    private static final int NOTHING = -15;

    private static int wrong = 0;
    private static int checks = 0;

    public static void main(String[] args) {
        promise1();
        promise2();
        promise3();
        promise4();
        promise5();
        promise6();
        promise7();
        promise8();
        promise9();
        promises10And11();
        promise12();
        promise13();
        promise14();
        promise15();
        promises16And17();
        promise18();
        promises19And20();
        promise21();
        promise22();
        promise23();
        promise24();
        promise25();
        promise26();
        promise27();
        faultPositions();
        ordersOfRun();
        promises28And30();
        promise29();
        promise31();
        promise32();
        promise33();
        promises34And35();
        promise36();
        promises37And38();
        eachChangeUndone();
        documentExamples();
        weakThreadsOfARound();
        urnMadeAnew();
        System.out.println("UrnHeapTest: " + checks + " checks, " + wrong + " wrong");
        if (wrong != 0) {
            System.exit(1);
        }
    }

    private static void due(String what, double got, double want) {
        checks++;
        if (got != want) {
            wrong++;
            System.out.println(what + ": answered " + got + ", due is " + want);
        }
    }

    private static void refused(UrnHeap x, String what, int got, int reason, int detail) {
        due(what, got, REFUSED);
        due(what + ", reason", x.reason(false), reason);
        due(what + ", detail", x.reason(true), detail);
    }

    private static UrnHeap withUrns(int urns) {
        UrnHeap x = new UrnHeap();
        for (int i = 0; i < urns; i++) {
            x.urn(false);
        }
        return x;
    }

    private static int run(UrnHeap x, String text) {
        for (int i = 0; i < text.length(); i++) {
            due("append of " + text, x.append(text.charAt(i)), i + 1);
        }
        return x.run();
    }

    private static String line(UrnHeap x, int length) {
        StringBuilder line = new StringBuilder();
        for (int i = 0; x.character(i) != NONE; i++) {
            line.append((char) x.character(i));
        }
        due("length of " + line, length, line.length());
        return line.toString();
    }

    private static void dueText(String what, String got, String want) {
        checks++;
        if (!got.equals(want)) {
            wrong++;
            System.out.println(what + ": answered " + got + ", due is " + want);
        }
    }

    private static String heapOf(UrnHeap x) {
        return line(x, x.tellHeap());
    }

    /** Urn 0 named and black, urn 1 white, its cell is swept later; the round sweeps. */
    private static UrnHeap sweeping() {
        UrnHeap x = withUrns(2);
        x.name(0, 0);
        x.begin();
        due("steps to sweep", x.step(2), 2);
        due("sweeps", x.account(1), 2);
        return x;
    }

    private static void promise1() {
        UrnHeap x = new UrnHeap();
        for (int what = 0; what <= 15; what++) {
            due("account of a new heap " + what, x.account(what), 0);
        }
        for (int name = 0; name < 6; name++) {
            due("name of a new heap", x.named(name), NOTHING);
        }
        due("constants", UrnHeap.NONE, NONE);
        due("constants", UrnHeap.BAD, BAD);
        due("constants", UrnHeap.FULL, FULL);
        due("constants", UrnHeap.REFUSED, REFUSED);
        due("constants", UrnHeap.NOTHING, NOTHING);
        due("live", x.live(), 0);
        due("liveAgain", x.liveAgain(), 0);
        due("wouldFree", x.wouldFree(), 0);
        due("no urn", x.urnOf(0, 0), NONE);
        due("no line", x.character(0), NONE);
        due("no reason", x.reason(false), NOTHING);
        due("no snapshot", x.restore(), NOTHING);
        due("no change", x.undo(), NOTHING);
        dueText("empty", heapOf(x), "........................");
    }

    private static void promise2() {
        UrnHeap x = new UrnHeap();
        for (int cell = 0; cell < 24; cell++) {
            due("urn", x.urn(cell % 2 == 1), cell);
            due("rite of new", x.urnOf(cell, 1), cell % 2);
            due("white of new", x.urnOf(cell, 0), 0);
        }
        refused(x, "25th urn", x.urn(true), 1, 24);
        due("made", x.account(7), 24);
        due("urns", x.account(3), 24);

        UrnHeap y = withUrns(1);
        y.begin();
        due("made while it marks", y.urn(true), 1);
        due("is black", y.urnOf(1, 0), 2);
        y.step(1);
        due("no rite due of a black one", y.due(0), NONE);
        due("sweeps", y.account(1), 2);
        due("sweeps 0", y.step(1), 1);
        due("lowest empty cell", y.urn(false), 0);
        due("white behind the sweep", y.urnOf(0, 0), 0);
        y.step(1);
        due("next is", y.account(2), 2);
        due("next to be swept", y.urn(false), 2);
        due("black at the next cell", y.urnOf(2, 0), 2);
        due("later", y.urn(false), 3);
        due("black at a later cell", y.urnOf(3, 0), 2);
        y.step(99);
        due("none freed but the first", y.account(8), 1);
        due("all white", y.account(4), 4);
    }

    private static void promise3() {
        UrnHeap x = withUrns(3);
        due("first", x.tie(0, 0, 1), NOTHING);
        due("replaces", x.tie(0, 0, 2), 1);
        due("itself", x.tie(0, 3, 0), NOTHING);
        due("again the same", x.tie(0, 0, 2), 2);
        due("twice held", x.tie(0, 1, 2), NOTHING);
        due("holders", x.urnOf(2, 3), 2);
        int[][] none = {{3, 0, 0}, {-1, 0, 0}, {24, 0, 0}, {0, -1, 0}, {0, 4, 0}, {0, 0, 3}, {0, 0, -1}, {0, 0, 24},
            {Integer.MIN_VALUE, 0, 0}, {0, Integer.MAX_VALUE, 0}, {0, 0, Integer.MAX_VALUE}, {Integer.MAX_VALUE, 0, 0}};
        for (int[] call : none) {
            due("tie none", x.tie(call[0], call[1], call[2]), NONE);
        }
        due("none is no refusal", x.reason(false), NOTHING);
        due("unchanged", x.threadOf(0, 0), 2);

        UrnHeap y = withUrns(4);
        y.name(0, 0);
        y.name(1, 1);
        y.begin();
        y.step(1);
        y.tie(1, 0, 2);
        due("tied by a grey one", y.urnOf(2, 0), 0);
        y.tie(2, 0, 3);
        due("tied by a white one", y.urnOf(3, 0), 0);
        y.tie(0, 2, 3);
        due("tied by a black one", y.urnOf(3, 0), 1);
        due("last of the row", y.grey(1), 3);
        y.tie(0, 3, 3);
        due("grey is not put in twice", y.account(5), 2);

        UrnHeap z = sweeping();
        refused(z, "from one to be swept", z.tie(1, 0, 0), 7, 1);
        refused(z, "to one to be swept", z.tie(0, 0, 1), 7, 1);
        due("no thread", z.urnOf(0, 2), 0);
        due("none before refused", z.tie(1, 4, 0), NONE);
        z.step(1);
        due("swept, white", z.urnOf(0, 0), 0);
        due("by a white one that is swept", z.tie(0, 0, 0), NOTHING);
        due("black while it sweeps", z.urn(false), 2);
        due("no colour while it sweeps", z.tie(2, 0, 0), NOTHING);
        due("stays white", z.urnOf(0, 0), 0);
        UrnHeap v = withUrns(4);
        v.begin();
        v.step(1);
        refused(v, "both to be swept: the urn first", v.tie(3, 0, 2), 7, 3);
    }

    private static void promise4() {
        UrnHeap x = withUrns(2);
        x.tie(0, 2, 1);
        due("untie", x.untie(0, 2), 1);
        refused(x, "untie again", x.untie(0, 2), 2, 2);
        due("no urn", x.untie(2, 0), NONE);
        due("no slot", x.untie(0, 4), NONE);
        due("no slot", x.untie(0, -1), NONE);
        due("no urn", x.untie(-1, 0), NONE);
        x.tie(1, 0, 0);
        x.begin();
        x.step(1);
        due("of one to be swept", x.untie(1, 0), 0);
    }

    private static void promise5() {
        UrnHeap x = withUrns(3);
        due("weak", x.weak(0, 1), NOTHING);
        due("weak again", x.weak(0, 2), 1);
        due("itself", x.weak(0, 0), 2);
        due("is to", x.urnOf(0, 4), 0);
        due("does not hold", x.urnOf(0, 3), 0);
        due("no thread", x.urnOf(0, 2), 0);
        due("no urn", x.weak(3, 0), NONE);
        due("no other", x.weak(0, 3), NONE);
        due("no other", x.weak(0, -1), NONE);
        x.name(0, 0);
        x.begin();
        x.step(1);
        x.weak(0, 1);
        due("no colour", x.urnOf(1, 0), 0);
        UrnHeap z = sweeping();
        refused(z, "from one to be swept", z.weak(1, 0), 7, 1);
        refused(z, "to one to be swept", z.weak(0, 1), 7, 1);
        due("itself while black", z.weak(0, 0), NOTHING);
    }

    private static void promise6() {
        UrnHeap x = withUrns(2);
        refused(x, "no weak one", x.unweak(1), 2, 4);
        x.weak(1, 0);
        due("unweak", x.unweak(1), 0);
        due("gone", x.urnOf(1, 4), NOTHING);
        due("no urn", x.unweak(2), NONE);
        due("no urn", x.unweak(-1), NONE);
        x.name(0, 0);
        x.weak(1, 0);
        x.begin();
        x.step(2);
        due("of one to be swept", x.unweak(1), 0);
    }

    private static void promise7() {
        UrnHeap x = withUrns(2);
        due("name", x.name(5, 1), NOTHING);
        due("name again", x.name(5, 0), 1);
        due("no name", x.name(6, 0), NONE);
        due("no name", x.name(-1, 0), NONE);
        due("no urn", x.name(0, 2), NONE);
        due("no urn", x.name(0, 24), NONE);
        x.begin();
        due("while it marks", x.name(0, 1), NOTHING);
        due("becomes grey", x.urnOf(1, 0), 1);
        due("last of the row", x.grey(1), 1);
        UrnHeap z = sweeping();
        refused(z, "to be swept", z.name(3, 1), 7, 1);
        due("still nothing", z.named(3), NOTHING);
        z.step(1);
        due("white, swept", z.name(3, 0), NOTHING);
        due("stays white", z.urnOf(0, 0), 0);
    }

    private static void promise8() {
        UrnHeap x = withUrns(1);
        x.name(2, 0);
        due("drop", x.drop(2), 0);
        refused(x, "drop again", x.drop(2), 3, 2);
        due("no name", x.drop(6), NONE);
        due("no name", x.drop(-1), NONE);
        x.name(2, 0);
        x.begin();
        due("while it marks", x.drop(2), 0);
        due("stays grey", x.urnOf(0, 0), 1);
    }

    private static void promise9() {
        UrnHeap x = withUrns(2);
        x.tie(0, 1, 1);
        x.tie(0, 3, 1);
        x.tie(1, 0, 1);
        x.name(0, 1);
        x.name(4, 1);
        x.weak(1, 0);
        x.weak(0, 1);
        due("threads", x.urnOf(0, 2), 2);
        due("holders", x.urnOf(1, 3), 5);
        due("not held", x.urnOf(0, 3), 0);
        due("weak", x.urnOf(1, 4), 0);
        due("made in", x.urnOf(1, 5), 0);
        due("bad", x.urnOf(0, 6), BAD);
        due("bad", x.urnOf(0, -1), BAD);
        due("none first", x.urnOf(2, 6), NONE);
        x.round();
        x.begin();
        due("freed", x.urnOf(0, 0), NONE);
        due("new", x.urn(false), 0);
        due("made in 1", x.urnOf(0, 5), 1);
        due("older", x.urnOf(1, 5), 0);
    }

    private static void promises10And11() {
        UrnHeap x = withUrns(2);
        x.tie(1, 3, 0);
        due("thread", x.threadOf(1, 3), 0);
        due("no thread", x.threadOf(1, 2), NOTHING);
        due("no slot", x.threadOf(1, 4), NONE);
        due("no slot", x.threadOf(1, -1), NONE);
        due("no urn", x.threadOf(2, 0), NONE);
        due("no urn", x.threadOf(Integer.MIN_VALUE, 0), NONE);
        x.name(5, 1);
        due("named", x.named(5), 1);
        due("not named", x.named(0), NOTHING);
        due("no name", x.named(6), NONE);
        due("no name", x.named(-1), NONE);
    }

    private static void promise12() {
        UrnHeap x = withUrns(4);
        x.name(0, 2);
        x.name(1, 2);
        x.name(2, 0);
        due("begin", x.begin(), 2);
        due("by the names", x.grey(0), 2);
        due("by the names", x.grey(1), 0);
        refused(x, "marks", x.begin(), 4, 1);
        x.step(3);
        refused(x, "sweeps", x.begin(), 4, 2);
        UrnHeap y = new UrnHeap();
        due("nothing grey", y.begin(), 0);

        UrnHeap z = new UrnHeap();
        z.urn(false);
        z.urn(true);
        z.urn(true);
        z.round();
        z.urn(true);
        z.name(0, 2);
        due("names, then rites", z.begin(), 2);
        due("named first", z.grey(0), 2);
        due("then due", z.grey(1), 1);
    }

    private static void promise13() {
        UrnHeap x = withUrns(3);
        due("bad", x.step(0), BAD);
        due("bad", x.step(100), BAD);
        due("bad", x.step(-1), BAD);
        refused(x, "no round", x.step(99), 5, 0);
        x.name(0, 0);
        x.tie(0, 1, 2);
        x.tie(0, 2, 1);
        x.begin();
        due("one part", x.step(1), 1);
        due("by the slots", x.grey(0), 2);
        due("by the slots", x.grey(1), 1);
        due("the rest", x.step(99), 2 + 1 + 24);
        refused(x, "over", x.step(1), 5, 1);
        due("parts", x.account(13), 28);
    }

    private static void promise14() {
        UrnHeap x = withUrns(5);
        x.name(0, 4);
        due("frees", x.round(), 4);
        due("frees none", x.round(), 0);
        due("rounds", x.account(0), 2);
        due("parts", x.account(13), 2 * (1 + 1 + 24));
        UrnHeap y = withUrns(5);
        y.begin();
        y.step(3);
        due("freed so far", y.account(8), 2);
        due("the rest of it", y.round(), 3);
        due("one round", y.account(0), 1);
    }

    private static void promise15() {
        UrnHeap x = new UrnHeap();
        x.urn(true);
        x.urn(true);
        refused(x, "none due", x.rite(), 6, 0);
        x.round();
        due("first", x.rite(), 0);
        due("no rite", x.urnOf(0, 1), 0);
        due("second", x.rite(), 1);
        refused(x, "no more", x.rite(), 6, 2);
        due("done", x.account(10), 2);
        UrnHeap y = new UrnHeap();
        y.urn(true);
        y.begin();
        y.step(1);
        due("while it marks", y.rite(), 0);
        due("no colour", y.urnOf(0, 0), 1);
        due("kept by its colour", y.round(), 0);
        due("then freed", y.round(), 1);
    }

    private static void promises16And17() {
        UrnHeap x = new UrnHeap();
        x.urn(false);
        x.urn(true);
        x.urn(true);
        x.name(0, 1);
        x.begin();
        x.step(2);
        due("due", x.due(0), 2);
        due("rite of a black one is to be done", x.urnOf(1, 1), 1);
        due("grey", x.grey(0), 2);
        due("no place", x.grey(1), NONE);
        due("no place", x.grey(-1), NONE);
        due("no place", x.due(1), NONE);
        due("no place", x.due(-1), NONE);
        x.drop(0);
        x.round();
        x.round();
        due("due", x.due(0), 2);
        due("due later", x.due(1), 1);
        x.rite();
        due("moves up", x.due(0), 1);
    }

    private static void promise18() {
        UrnHeap x = withUrns(14);
        due("none", x.freed(0), NONE);
        x.round();
        for (int place = 0; place < 12; place++) {
            due("freed", x.freed(place), 13 - place);
        }
        due("of the latest 12", x.freed(12), NONE);
        due("no place", x.freed(-1), NONE);
        x.urn(false);
        x.round();
        due("newest", x.freed(0), 0);
        due("older", x.freed(1), 13);
        due("oldest", x.freed(11), 3);
        UrnHeap y = withUrns(2);
        y.round();
        due("two", y.freed(1), 0);
        due("two alone", y.freed(2), NONE);
    }

    private static void promises19And20() {
        UrnHeap x = withUrns(24);
        x.urn(false);
        for (int i = 23; i > 0; i--) {
            x.tie(i, i % 4, i - 1);
        }
        due("nothing named", x.live(), 0);
        x.name(0, 23);
        due("all", x.live(), (1 << 24) - 1);
        due("all", x.liveAgain(), (1 << 24) - 1);
        x.weak(10, 20);
        x.untie(15, 3);
        due("a part", x.live(), ((1 << 24) - 1) & ~((1 << 15) - 1));
        due("a part", x.liveAgain(), ((1 << 24) - 1) & ~((1 << 15) - 1));
        UrnHeap y = new UrnHeap();
        y.urn(false);
        y.urn(true);
        y.tie(1, 0, 0);
        due("rite to be done", y.live(), 0);
        y.round();
        due("rite due", y.live(), 3);
        due("rite due", y.liveAgain(), 3);
        y.rite();
        due("rite done", y.live(), 0);
        due("rite done", y.liveAgain(), 0);
    }

    private static void promise21() {
        UrnHeap x = withUrns(24);
        for (int i = 0; i < 23; i++) {
            x.tie(i, 0, i + 1);
        }
        x.name(0, 0);
        for (int i = 0; i < 24; i++) {
            due("depth", x.depth(i), i);
        }
        x.tie(0, 1, 20);
        due("shortest", x.depth(22), 3);
        x.name(1, 22);
        due("named", x.depth(22), 0);
        due("no urn", x.depth(24), NONE);
        due("no urn", x.depth(-1), NONE);
        x.drop(0);
        due("cannot be come to", x.depth(0), NOTHING);
        UrnHeap y = new UrnHeap();
        y.urn(true);
        due("not due", y.depth(0), NOTHING);
        y.round();
        due("due", y.depth(0), 0);
    }

    private static void promise22() {
        UrnHeap x = withUrns(3);
        x.tie(0, 0, 2);
        x.tie(1, 0, 2);
        due("none", x.keepers(2), 0);
        x.name(3, 0);
        due("one", x.keepers(2), 8);
        x.name(5, 1);
        due("two ways", x.keepers(2), 0);
        due("one way", x.keepers(1), 32);
        due("no urn", x.keepers(3), NONE);
        due("no urn", x.keepers(-1), NONE);
        UrnHeap y = new UrnHeap();
        y.urn(true);
        y.round();
        y.name(0, 0);
        due("kept by its rite", y.keepers(0), 0);
        y.rite();
        due("kept by the name", y.keepers(0), 1);
    }

    private static void promise23() {
        UrnHeap x = withUrns(24);
        due("none", x.ring(0), NOTHING);
        for (int i = 0; i < 24; i++) {
            x.tie(i, 0, (i + 1) % 24);
        }
        due("longest", x.ring(7), 24);
        x.tie(10, 1, 7);
        due("shorter", x.ring(7), 4);
        due("by way of it", x.ring(11), 24);
        x.tie(7, 2, 7);
        due("itself", x.ring(7), 1);
        x.weak(8, 8);
        due("weak does not count", x.ring(8), 4);
        due("no urn", x.ring(-1), NONE);
        due("no urn", x.ring(24), NONE);
        UrnHeap y = withUrns(2);
        y.tie(0, 0, 1);
        y.tie(1, 0, 1);
        due("comes to a ring, is in none", y.ring(0), NOTHING);
    }

    private static void promise24() {
        UrnHeap x = new UrnHeap();
        x.urn(false);
        x.urn(true);
        x.urn(false);
        x.urn(false);
        x.tie(1, 0, 2);
        x.tie(3, 0, 1);
        due("would free", x.wouldFree(), 1 | 8);
        x.begin();
        due("while one marks", x.wouldFree(), 1 | 8);
        x.step(2);
        due("while one is black", x.wouldFree(), 1 | 8);
        due("frees", x.round(), 2);
        due("due keeps", x.wouldFree(), 0);
        x.rite();
        due("done", x.wouldFree(), 2 | 4);
    }

    private static void promise25() {
        UrnHeap x = withUrns(5);
        x.tie(0, 0, 3);
        x.tie(0, 1, 3);
        x.name(0, 4);
        x.tie(4, 0, 2);
        due("most held", x.ranked(0), 3);
        due("one, holds one", x.ranked(1), 4);
        due("one, holds none", x.ranked(2), 2);
        due("holds two", x.ranked(3), 0);
        due("holds none", x.ranked(4), 1);
        due("no place", x.ranked(5), NONE);
        due("no place", x.ranked(-1), NONE);
        due("empty", new UrnHeap().ranked(0), NONE);
        UrnHeap y = withUrns(24);
        for (int place = 0; place < 24; place++) {
            due("lowest first", y.ranked(place), place);
        }
    }

    private static void promise26() {
        UrnHeap x = new UrnHeap();
        due("bad", x.append(31), BAD);
        due("bad", x.append(127), BAD);
        for (int i = 1; i <= 60; i++) {
            due("append", x.append(i % 2 == 0 ? 32 : 126), i);
        }
        due("full", x.append(32), FULL);
        due("bad before full", x.append(127), BAD);
        due("characters", x.account(14), 60);
        due("no change", x.account(15), 0);
    }

    private static void promise27() {
        UrnHeap x = new UrnHeap();
        due("orders", run(x, "urn!;urn;tie 1.0=01;weak 0=1;name f=0;name a=1;round"), 7);
        due("empty now", x.account(14), 0);
        due("one change", x.account(15), 1);
        due("rite", x.urnOf(0, 1), 1);
        due("thread", x.threadOf(1, 0), 1);
        due("weak", x.urnOf(0, 4), 1);
        due("names", x.named(5), 0);
        due("round", x.account(0), 1);
        due("more", run(x, "untie 1.0;drop f;drop a;round;rite"), 5);
        due("rite done", x.account(10), 1);
        due("freed", x.freed(0), 1);
        due("undone", x.undo(), 1);
        due("all of it", x.named(5), 0);
        refused(x, "the last one fails", run(x, "urn;drop a;drop a"), 8, 2);
        due("all or none", x.named(0), 1);
        due("all or none", x.account(3), 2);
        due("no change", x.account(15), 1);
        due("text is empty", x.account(14), 0);
        due("fifteen orders", run(x, "urn;urn;urn;urn;urn;urn;urn;urn;urn;urn;urn;urn;urn;urn;urn"), 15);
        due("urns", x.account(3), 17);
        due("an order after the last", run(x, "urn;urn;urn;urn;urn;urn;urn;urn;urn;urn;urn;urn;urn;urn;urn;"), -1060);
        refused(x, "full", run(x, "urn;urn;urn;urn;urn;urn;urn;urn"), 8, 7);
        due("text wrong, no reason", run(x, "drop"), -1004);
        due("text wrong, no reason", x.reason(true), 7);
    }

    private static void faultPositions() {
        String[] texts = {"", ";", "urn;", "urn ", "urn!!", "u", "un", "unt", "untie0", "untie ", "untie 1", "untie 12",
            "untie 123", "untie 1.", "untie 1.12", "uri", "tie 1.2", "tie 1.2=", "tie 1.2=345", "tie 1.23", "tie .",
            "tie  1", "name g=1", "name a", "name a=x", "name ab", "drop", "drop A", "drop aa", "weak 1.2", "weak 1=",
            "weak =1", "roun", "round!", "rounds", "rite;;", "ri", "rx", "step", "step ", "step x", "step 123", "step -1",
            " urn", "Urn", "urn;urm", "begin", "tie #.$=#", "drop @", "unweak 1", "w", "wx", "urn; urn", "urn!;u"};
        int[] faults = {0, 0, 4, 3, 4, 1, 2, 3, 5, 6, 7, 8,
            8, 8, 9, 2, 7, 8, 10, 7, 4,
            4, 5, 6, 7, 6, 4, 5, 6, 6, 7,
            5, 4, 5, 5, 5, 2, 1, 4, 5, 5, 7, 5,
            0, 0, 6, 0, 4, 5, 2, 1, 1, 4, 6};
        due("as many faults as texts", faults.length, texts.length);
        for (int i = 0; i < texts.length; i++) {
            UrnHeap x = withUrns(3);
            due("fault of " + texts[i], run(x, texts[i]), -1000 - faults[i]);
            due("emptied", x.account(14), 0);
            due("no reason", x.reason(false), NOTHING);
            due("no order", x.account(3), 3);
        }
    }

    private static void ordersOfRun() {
        String[] fails = {"tie 3.0=0", "tie 0.4=0", "tie 0.0=99", "untie 0.0", "untie 0.9", "untie 77.0", "name a=3",
            "drop b", "weak 0=3", "weak 3=0", "step 0", "step 00", "step 9", "rite"};
        for (String order : fails) {
            UrnHeap x = withUrns(3);
            refused(x, order, run(x, order), 8, 0);
            refused(x, "urn;" + order, run(x, "urn;urn;round;" + order), 8, 3);
            due("none made", x.account(3), 3);
            due("no round", x.account(0), 0);
        }
        UrnHeap y = withUrns(2);
        y.begin();
        due("step in a round", run(y, "step 2;step 99"), 2);
        due("over", y.account(0), 1);
        due("rounds", run(y, "round;round;round"), 3);
        due("rounds", y.account(0), 4);
        UrnHeap z = sweeping();
        refused(z, "to be swept", run(z, "urn;tie 0.0=1"), 8, 1);
        due("round ends the one that goes on", run(z, "round"), 1);
        due("over", z.account(0), 1);
    }

    private static void promises28And30() {
        UrnHeap x = withUrns(3);
        x.urn(true);
        x.tie(3, 0, 0);
        x.tie(3, 2, 2);
        x.weak(3, 1);
        dueText("tell", line(x, x.tell(3)), "3!:0,-,2,-~1");
        dueText("tell", line(x, x.tell(0)), "0:-,-,-,-");
        due("no urn", x.tell(4), NONE);
        due("no urn", x.tell(-1), NONE);
        due("line stays", x.character(0), '0');
        due("last", x.character(8), '-');
        due("behind it", x.character(9), NONE);
        due("before it", x.character(-1), NONE);
        x.round();
        dueText("due", line(x, x.tell(3)), "3?:0,-,2,-");
        UrnHeap y = withUrns(24);
        y.tie(23, 3, 10);
        y.tie(23, 1, 9);
        y.weak(23, 23);
        dueText("two digits", line(y, y.tell(23)), "23:-,9,-,10~23");
        y.undo();
        due("line is not undone", y.character(13), '3');
    }

    private static void promise29() {
        UrnHeap x = withUrns(3);
        x.name(0, 1);
        x.tie(1, 0, 2);
        x.begin();
        dueText("begun", heapOf(x), "wgw.....................");
        x.step(1);
        dueText("marked", heapOf(x), "wbg.....................");
        x.step(3);
        dueText("swept", heapOf(x), ".bb.....................");
        x.step(1);
        dueText("swept", heapOf(x), ".wb.....................");
    }

    private static void promise31() {
        UrnHeap x = new UrnHeap();
        due("nothing", x.reason(true), NOTHING);
        x.drop(4);
        due("detail", x.reason(true), 4);
        due("reason", x.reason(false), 3);
        x.save();
        x.rite();
        x.urn(false);
        x.undo();
        due("not undone", x.reason(false), 6);
        x.restore();
        due("not restored", x.reason(false), 6);
    }

    private static void promise32() {
        UrnHeap x = withUrns(2);
        x.urn(true);
        x.name(0, 0);
        x.name(1, 0);
        x.weak(0, 1);
        x.append('u');
        x.begin();
        x.step(2);
        int[] marked = {0, 1, 0, 3, 1, 1, 1, 3, 0, 1, 0, 0, 2, 2, 1, 8};
        for (int what = 0; what < 16; what++) {
            due("account " + what, x.account(what), marked[what]);
        }
        x.step(4);
        int[] swept = {0, 2, 2, 2, 1, 0, 1, 3, 1, 1, 0, 1, 2, 6, 1, 8};
        for (int what = 0; what < 16; what++) {
            due("account " + what, x.account(what), swept[what]);
        }
        x.rite();
        x.round();
        int[] over = {1, 0, 0, 2, 2, 0, 0, 3, 1, 0, 1, 1, 2, 28, 1, 8};
        for (int what = 0; what < 16; what++) {
            due("account " + what, x.account(what), over[what]);
        }
        due("bad", x.account(16), BAD);
        due("bad", x.account(-1), BAD);
    }

    private static void promise33() {
        UrnHeap x = withUrns(6);
        x.name(0, 0);
        x.tie(0, 0, 1);
        x.tie(2, 0, 3);
        x.tie(3, 0, 2);
        x.weak(0, 2);
        due("balanced", x.isBalanced(), 1);
        x.begin();
        for (int part = 0; part < 40; part++) {
            due("balanced", x.isBalanced(), 1);
            x.step(1);
        }
        x.undo();
        due("balanced", x.isBalanced(), 1);
    }

    private static void promises34And35() {
        UrnHeap x = new UrnHeap();
        due("no urns", x.meanHeld(), 0.0);
        due("no urns", x.liveShare(), 0.0f);
        x.urn(false);
        x.urn(false);
        x.urn(false);
        x.tie(0, 0, 0);
        x.tie(0, 1, 1);
        x.tie(2, 1, 1);
        x.weak(0, 1);
        x.name(0, 0);
        due("mean", x.meanHeld(), 4.0 / 3.0);
        due("share", x.liveShare(), 2.0f / 3.0f);
    }

    private static void promise36() {
        UrnHeap x = new UrnHeap();
        for (int i = 0; i < 10; i++) {
            x.urn(false);
        }
        due("eight at most", x.account(15), 8);
        x.drop(0);
        x.step(0);
        x.untie(99, 0);
        due("a code is no change", x.account(15), 8);
        for (int left = 7; left >= 0; left--) {
            due("undo", x.undo(), left);
            due("urns", x.account(3), left + 2);
        }
        due("no more", x.undo(), NOTHING);
        due("urns", x.account(3), 2);
        x.name(0, 1);
        x.name(0, 1);
        due("the same again is a change", x.undo(), 1);
        due("still", x.named(0), 1);
        due("and before", x.undo(), 0);
        due("not named", x.named(0), NOTHING);
        x.round();
        due("no urns", x.account(3), 0);
        x.undo();
        due("they are back", x.account(3), 2);
        due("none freed", x.freed(0), NONE);
        due("no round", x.account(0), 0);
        due("no parts", x.account(13), 0);
        x.begin();
        x.undo();
        due("no round goes on", x.account(1), 0);
        x.weak(0, 1);
        x.unweak(0);
        x.tie(0, 0, 0);
        x.untie(0, 0);
        due("four", x.account(15), 4);
        x.undo();
        due("tied again", x.threadOf(0, 0), 0);
    }

    private static void promises37And38() {
        UrnHeap x = withUrns(2);
        due("nothing", x.restore(), NOTHING);
        due("nothing is lost by it", x.account(15), 2);
        due("save", x.save(), 2);
        due("no change", x.account(15), 2);
        x.round();
        x.urn(true);
        due("restore", x.restore(), 2);
        due("nothing to undo", x.undo(), NOTHING);
        due("freed", x.account(8), 0);
        due("freed", x.freed(0), NONE);
        x.urn(false);
        due("stays", x.restore(), 2);
        x.name(0, 0);
        x.begin();
        due("in place", x.save(), 2);
        x.undo();
        x.undo();
        x.append('u');
        due("restore", x.restore(), 2);
        due("marks", x.account(1), 1);
        due("grey", x.grey(0), 0);
        due("text stays", x.account(14), 1);
    }

    /** All that the face tells of the heap; the reason, the text and the line are no part of it. */
    private static String picture(UrnHeap x) {
        StringBuilder all = new StringBuilder();
        for (int cell = 0; cell < 24; cell++) {
            for (int what = 0; what < 6; what++) {
                all.append(x.urnOf(cell, what)).append(' ');
            }
            for (int slot = 0; slot < 4; slot++) {
                all.append(x.threadOf(cell, slot)).append(' ');
            }
            all.append(x.due(cell)).append(' ').append(x.grey(cell)).append(' ');
            all.append(cell < 12 ? x.freed(cell) : NONE).append(' ');
            all.append(x.depth(cell)).append(' ').append(x.keepers(cell)).append(' ').append(x.ring(cell)).append(' ');
        }
        for (int name = 0; name < 6; name++) {
            all.append(x.named(name)).append(' ');
        }
        for (int what = 0; what < 14; what++) {
            all.append(x.account(what)).append(' ');
        }
        return all.toString();
    }

    /** In the second round: a grey urn, two urns whose rites are due, names, threads and weak threads. */
    private static UrnHeap busy(int parts) {
        UrnHeap x = new UrnHeap();
        x.urn(false);
        x.urn(true);
        x.urn(true);
        x.urn(true);
        x.urn(false);
        x.urn(false);
        x.name(5, 5);
        x.tie(5, 3, 4);
        x.weak(5, 0);
        x.round();
        x.rite();
        x.urn(false);
        x.weak(5, 4);
        if (parts > 0) {
            x.begin();
            x.step(parts);
        }
        return x;
    }

    private static int change(UrnHeap x, int kind) {
        switch (kind) {
            case 0:
                return x.urn(true);
            case 1:
                return x.tie(5, 0, 5);
            case 2:
                return x.untie(5, 3);
            case 3:
                return x.weak(5, 5);
            case 4:
                return x.unweak(5);
            case 5:
                return x.name(1, 4);
            case 6:
                return x.drop(5);
            case 7:
                return x.step(1);
            case 8:
                return x.step(99);
            case 9:
                return x.round();
            case 10:
                return x.rite();
            case 11:
                return run(x, "urn;tie 5.1=4;weak 5=2;name b=2;drop f;round;rite");
            default:
                return x.begin();
        }
    }

    /** Each picture is of an object of its own, as one takes most of the 512 calls. */
    private static void eachChangeUndone() {
        for (int parts = 0; parts < 16; parts++) {
            String before = picture(busy(parts));
            for (int kind = 0; kind < 13; kind++) {
                UrnHeap x = busy(parts);
                int result = change(x, kind);
                boolean isDone = result != NONE && result != BAD && result != REFUSED;
                String after = picture(x);
                String what = "change " + kind + " after " + parts + " parts";
                dueText(what + " changes something", isDone + "", !after.equals(before) + "");
                dueText(what + " undone", picture(doneAndUndone(parts, kind, isDone)), before);
                UrnHeap again = doneAndUndone(parts, kind, isDone);
                dueText(what + " done again", change(again, kind) + picture(again), result + after);
                dueText(what + " restored", picture(doneAndRestored(parts, kind)), before);
            }
        }
    }

    private static UrnHeap doneAndUndone(int parts, int kind, boolean isDone) {
        UrnHeap x = busy(parts);
        change(x, kind);
        if (isDone) {
            due("undone", x.undo(), 7);
        }
        return x;
    }

    private static UrnHeap doneAndRestored(int parts, int kind) {
        UrnHeap x = busy(parts);
        x.save();
        change(x, kind);
        x.restore();
        return x;
    }

    private static void documentExamples() {
        UrnHeap x = withUrns(3);
        x.tie(0, 0, 1);
        x.name(2, 0);
        x.weak(0, 2);
        due("wouldFree", x.wouldFree(), 4);
        due("begin", x.begin(), 1);
        due("step", x.step(2), 2);
        due("tie", x.tie(1, 3, 2), NOTHING);
        due("grey", x.urnOf(2, 0), 1);
        due("step", x.step(99), 26);
        due("weak", x.urnOf(0, 4), 2);
        due("urns", x.account(3), 3);
        due("live", x.live(), 7);
        due("liveAgain", x.liveAgain(), 7);

        UrnHeap y = new UrnHeap();
        y.urn(true);
        y.urn(false);
        y.tie(0, 0, 1);
        y.tie(1, 1, 1);
        due("round", y.round(), 0);
        due("due", y.due(0), 0);
        due("rite", y.urnOf(0, 1), 2);
        due("rite", y.rite(), 0);
        due("round", y.round(), 2);
        due("freed", y.freed(0), 1);
        due("freed", y.freed(1), 0);
        due("ring", y.ring(1), NONE);

        UrnHeap z = withUrns(1);
        due("begin", z.begin(), 0);
        due("step", z.step(2), 2);
        due("name", z.name(0, 0), NONE);
        due("reason", z.reason(false), NOTHING);
        due("step", z.step(24), 23);
        due("rounds", z.account(0), 1);
        due("urn", z.urnOf(0, 0), NONE);
        refused(z, "drop", z.drop(0), 3, 0);
        due("untie", z.untie(0, 0), NONE);
        due("unweak", z.unweak(0), NONE);
        due("reason", z.reason(true), 0);

        UrnHeap w = new UrnHeap();
        due("rite", w.rite(), REFUSED);
        due("step", w.step(1), REFUSED);
        due("run", run(w, "urn;rite"), REFUSED);
        due("run", run(w, "ux"), -1001);
    }

    private static void weakThreadsOfARound() {
        UrnHeap x = withUrns(4);
        x.name(0, 0);
        x.weak(0, 0);
        x.weak(1, 0);
        x.weak(2, 3);
        x.weak(3, 3);
        x.begin();
        x.step(2);
        due("sweeps", x.account(1), 2);
        due("all to white ones are cut", x.account(11), 2);
        due("to a black one", x.urnOf(0, 4), 0);
        due("of a white one to a black one", x.urnOf(1, 4), 0);
        due("of a white one to a white one", x.urnOf(2, 4), NOTHING);
        x.round();
        due("those that go with it are not cut", x.account(11), 2);
        due("stays", x.urnOf(0, 4), 0);
    }

    private static void urnMadeAnew() {
        UrnHeap x = withUrns(3);
        x.name(0, 0);
        x.tie(1, 0, 2);
        x.tie(2, 0, 1);
        x.tie(2, 1, 0);
        x.weak(1, 0);
        x.begin();
        x.step(4);
        due("1 is freed", x.freed(0), 1);
        due("thread to it is taken away", x.threadOf(2, 0), NOTHING);
        due("another stays", x.threadOf(2, 1), 0);
        due("anew", x.urn(false), 1);
        dueText("as new", line(x, x.tell(1)), "1:-,-,-,-");
        due("not held", x.urnOf(1, 3), 0);
    }
}
