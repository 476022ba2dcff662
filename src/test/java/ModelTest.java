import java.util.ArrayDeque;
import java.util.ArrayList;
import java.util.List;
import java.util.TreeMap;
import java.util.regex.Matcher;
import java.util.regex.Pattern;

/** Long runs of calls on UrnHeap and on a second heap that is written another way; all answers are compared. */
public final class ModelTest {
    private static final int RUNS = 12000;
    /** As many calls as the document promises answers for; the last of them look at all there is to see. */
    private static final int MOST_CALLS = 512;
    private static final int LAST_LOOKS = 190;
    private static final int LOOKS = 23;

    private static long seed;

    private static int pick(int bound) {
        seed = seed * 6364136223846793005L + 1442695040888963407L;
        return (int) ((seed >>> 33) % bound);
    }

    /** The model: urns are kept by cell, threads by pairs "urn, slot", all in maps and lists. */
    private static final class Model {
        TreeMap<Integer, int[]> urns = new TreeMap<>(); // cell -> colour, rite, made in
        TreeMap<Integer, Integer> threads = new TreeMap<>(); // urn * 4 + slot -> urn
        TreeMap<Integer, Integer> weaks = new TreeMap<>();
        TreeMap<Integer, Integer> names = new TreeMap<>();
        List<Integer> greys = new ArrayList<>();
        List<Integer> dues = new ArrayList<>();
        List<Integer> freed = new ArrayList<>();
        int phase;
        int next;
        int over;
        int made;
        int rites;
        int cuts;
        int parts;

        Model copy() {
            Model m = new Model();
            for (int cell : urns.keySet()) {
                m.urns.put(cell, urns.get(cell).clone());
            }
            m.threads.putAll(threads);
            m.weaks.putAll(weaks);
            m.names.putAll(names);
            m.greys.addAll(greys);
            m.dues.addAll(dues);
            m.freed.addAll(freed);
            m.phase = phase;
            m.next = next;
            m.over = over;
            m.made = made;
            m.rites = rites;
            m.cuts = cuts;
            m.parts = parts;
            return m;
        }

        boolean has(int cell) {
            return urns.containsKey(cell);
        }

        int colour(int cell) {
            return urns.get(cell)[0];
        }

        boolean doomed(int cell) {
            return phase == 2 && colour(cell) == 0 && cell >= next;
        }

        void grey(int cell) {
            if (colour(cell) == 0) {
                urns.get(cell)[0] = 1;
                greys.add(cell);
            }
        }

        void part() {
            parts++;
            if (phase == 1) {
                if (!greys.isEmpty()) {
                    int urn = greys.remove(0);
                    urns.get(urn)[0] = 2;
                    new ArrayList<>(threads.subMap(urn * 4, urn * 4 + 4).values()).forEach(this::grey);
                    return;
                }
                List<Integer> waiting = new ArrayList<>();
                urns.forEach((cell, urn) -> {
                    if (urn[0] == 0 && urn[1] == 1) {
                        waiting.add(cell);
                    }
                });
                for (int cell : waiting) {
                    grey(cell);
                    urns.get(cell)[1] = 2;
                    dues.add(cell);
                }
                if (waiting.isEmpty()) {
                    int before = weaks.size();
                    weaks.values().removeIf(to -> colour(to) == 0);
                    cuts += before - weaks.size();
                    phase = 2;
                    next = 0;
                }
                return;
            }
            if (has(next)) {
                if (colour(next) == 0) {
                    int gone = next;
                    urns.remove(gone);
                    threads.entrySet().removeIf(e -> e.getKey() / 4 == gone || e.getValue() == gone);
                    weaks.remove(gone);
                    freed.add(0, gone);
                } else {
                    urns.get(next)[0] = 0;
                }
            }
            next++;
            if (next == 24) {
                next = 0;
                phase = 0;
                over++;
            }
        }

        int start() {
            phase = 1;
            names.values().forEach(this::grey);
            dues.forEach(this::grey);
            return greys.size();
        }

        TreeMap<Integer, Integer> depths(List<Integer> roots) {
            TreeMap<Integer, Integer> depths = new TreeMap<>();
            ArrayDeque<Integer> open = new ArrayDeque<>();
            for (int root : roots) {
                if (depths.putIfAbsent(root, 0) == null) {
                    open.add(root);
                }
            }
            while (!open.isEmpty()) {
                int urn = open.remove();
                for (int to : threads.subMap(urn * 4, urn * 4 + 4).values()) {
                    if (depths.putIfAbsent(to, depths.get(urn) + 1) == null) {
                        open.add(to);
                    }
                }
            }
            return depths;
        }

        List<Integer> roots(int without) {
            List<Integer> roots = new ArrayList<>(dues);
            names.forEach((name, urn) -> {
                if (name != without) {
                    roots.add(urn);
                }
            });
            return roots;
        }

        int held(int urn) {
            int count = 0;
            for (int to : threads.values()) {
                count += to == urn ? 1 : 0;
            }
            for (int to : names.values()) {
                count += to == urn ? 1 : 0;
            }
            return count;
        }

        int holds(int urn) {
            return threads.subMap(urn * 4, urn * 4 + 4).size();
        }
    }

    private static final Pattern ORDER = Pattern.compile(
            "urn!?|tie (\\d\\d?)\\.(\\d)=(\\d\\d?)|untie (\\d\\d?)\\.(\\d)|name ([a-f])=(\\d\\d?)|drop ([a-f])"
            + "|weak (\\d\\d?)=(\\d\\d?)|round|step (\\d\\d?)|rite");
    private static final Pattern TEXT = Pattern.compile("(" + ORDER + ")(;(" + ORDER + "))*");

    /** Answers as the document asks, with the model beneath. */
    private static final class Asked {
        Model m = new Model();
        Model saved;
        List<Model> past = new ArrayList<>();
        String text = "";
        String line = "";
        int reason = -15;
        int detail = -15;

        int refuse(int newReason, int newDetail) {
            reason = newReason;
            detail = newDetail;
            return -14;
        }

        int change(int kind, int a, int b, int c) {
            Model before = m.copy();
            int result = kind == 12 ? runText() : act(kind, a, b, c);
            if (result == -11 || result == -12 || result == -14 || result <= -1000) {
                m = before;
            } else {
                past.add(before);
                if (past.size() > 8) {
                    past.remove(0);
                }
            }
            return result;
        }

        int act(int kind, int a, int b, int c) {
            switch (kind) {
                case 0: return urn(a == 1);
                case 1:
                    if (!m.has(a) || b < 0 || b > 3 || !m.has(c)) return -11;
                    if (m.doomed(a)) return refuse(7, a);
                    if (m.doomed(c)) return refuse(7, c);
                    if (m.phase == 1 && m.colour(a) == 2) m.grey(c);
                    return or(m.threads.put(a * 4 + b, c));
                case 2:
                    if (!m.has(a) || b < 0 || b > 3) return -11;
                    return m.threads.containsKey(a * 4 + b) ? m.threads.remove(a * 4 + b) : refuse(2, b);
                case 3:
                    if (!m.has(a) || !m.has(b)) return -11;
                    if (m.doomed(a)) return refuse(7, a);
                    if (m.doomed(b)) return refuse(7, b);
                    return or(m.weaks.put(a, b));
                case 4:
                    if (!m.has(a)) return -11;
                    return m.weaks.containsKey(a) ? m.weaks.remove(a) : refuse(2, 4);
                case 5:
                    if (a < 0 || a > 5 || !m.has(b)) return -11;
                    if (m.doomed(b)) return refuse(7, b);
                    if (m.phase == 1) m.grey(b);
                    return or(m.names.put(a, b));
                case 6:
                    if (a < 0 || a > 5) return -11;
                    return m.names.containsKey(a) ? m.names.remove(a) : refuse(3, a);
                case 7: return m.phase != 0 ? refuse(4, m.phase) : m.start();
                case 8: {
                    if (a < 1 || a > 99) return -12;
                    if (m.phase == 0) return refuse(5, m.over);
                    int done = 0;
                    for (; done < a && m.phase != 0; done++) m.part();
                    return done;
                }
                case 9: {
                    int before = m.freed.size();
                    if (m.phase == 0) m.start();
                    while (m.phase != 0) m.part();
                    return m.freed.size() - before;
                }
                case 10:
                    if (m.dues.isEmpty()) return refuse(6, m.rites);
                    m.rites++;
                    m.urns.get(m.dues.get(0))[1] = 0;
                    return m.dues.remove(0);
                default: return -15;
            }
        }

        static int or(Integer value) {
            return value == null ? -15 : value;
        }

        int urn(boolean isRite) {
            for (int cell = 0; cell < 24; cell++) {
                if (!m.has(cell)) {
                    boolean black = m.phase == 1 || m.phase == 2 && cell >= m.next;
                    m.urns.put(cell, new int[] {black ? 2 : 0, isRite ? 1 : 0, m.over});
                    m.made++;
                    return cell;
                }
            }
            return refuse(1, 24);
        }

        int runText() {
            String read = text;
            text = "";
            if (!TEXT.matcher(read).matches()) {
                return -1000 - fault(read);
            }
            String[] orders = read.split(";");
            for (int i = 0; i < orders.length; i++) {
                int result = order(orders[i]);
                if (result == -11 || result == -12 || result == -14) {
                    return refuse(8, i);
                }
            }
            return orders.length;
        }

        int order(String o) {
            Matcher k = ORDER.matcher(o);
            if (!k.matches()) throw new IllegalStateException(o);
            if (o.startsWith("urn")) return act(0, o.endsWith("!") ? 1 : 0, 0, 0);
            if (o.startsWith("tie")) return act(1, num(k, 1), num(k, 2), num(k, 3));
            if (o.startsWith("untie")) return act(2, num(k, 4), num(k, 5), 0);
            if (o.startsWith("name")) return act(5, k.group(6).charAt(0) - 'a', num(k, 7), 0);
            if (o.startsWith("drop")) return act(6, k.group(8).charAt(0) - 'a', 0, 0);
            if (o.startsWith("weak")) return act(3, num(k, 9), num(k, 10), 0);
            if (o.equals("round")) return act(9, 0, 0, 0);
            if (o.startsWith("step")) return act(8, num(k, 11), 0, 0);
            return act(10, 0, 0, 0);
        }

        static int num(Matcher k, int group) {
            return Integer.parseInt(k.group(group));
        }

        /** The longest start of the text with which some text begins: hitEnd tells that more could follow. */
        static int fault(String read) {
            for (int length = read.length(); length > 0; length--) {
                Matcher k = TEXT.matcher(read.substring(0, length));
                if (k.matches() || k.hitEnd()) {
                    return length;
                }
            }
            return 0;
        }

        String told(int urn) {
            StringBuilder told = new StringBuilder().append(urn).append(List.of("", "!", "?").get(m.urns.get(urn)[1]));
            for (int slot = 0; slot < 4; slot++) {
                Integer to = m.threads.get(urn * 4 + slot);
                told.append(slot == 0 ? ":" : ",").append(to == null ? "-" : to.toString());
            }
            return told.append(m.weaks.containsKey(urn) ? "~" + m.weaks.get(urn) : "").toString();
        }

        String heap() {
            StringBuilder told = new StringBuilder();
            for (int cell = 0; cell < 24; cell++) {
                told.append(m.has(cell) ? "wgb".charAt(m.colour(cell)) : '.');
            }
            return told.toString();
        }

        static int bits(Iterable<Integer> urns) {
            int set = 0;
            for (int urn : urns) {
                set |= 1 << urn;
            }
            return set;
        }

        int ring(int urn) {
            TreeMap<Integer, Integer> depths = m.depths(new ArrayList<>(m.threads.subMap(urn * 4, urn * 4 + 4).values()));
            return depths.containsKey(urn) ? depths.get(urn) + 1 : -15;
        }

        int keepers(int urn) {
            int set = 0;
            for (int name = 0; name < 6; name++) {
                set |= m.depths(m.roots(name)).containsKey(urn) ? 0 : 1 << name;
            }
            return m.depths(m.roots(-1)).containsKey(urn) ? set : 0;
        }

        /** By doing what the document says: a round on a copy of which all urns are white. */
        int wouldFree() {
            Model copy = m.copy();
            copy.urns.values().forEach(urn -> urn[0] = 0);
            copy.greys.clear();
            copy.freed.clear();
            copy.start();
            while (copy.phase != 0) {
                copy.part();
            }
            return bits(copy.freed);
        }

        int ranked(int place) {
            List<Integer> cells = new ArrayList<>(m.urns.keySet());
            cells.sort((a, b) -> m.held(a) != m.held(b) ? m.held(b) - m.held(a)
                    : m.holds(a) != m.holds(b) ? m.holds(b) - m.holds(a) : a - b);
            return at(cells, place);
        }

        static int at(List<Integer> row, int place) {
            return place < 0 || place >= row.size() ? -11 : row.get(place);
        }

        int account(int what) {
            int[] colours = new int[3];
            m.urns.values().forEach(urn -> colours[urn[0]]++);
            int[] accounts = {m.over, m.phase, m.next, m.urns.size(), colours[0], colours[1], colours[2], m.made,
                m.freed.size(), m.dues.size(), m.rites, m.cuts, m.names.size(), m.parts, text.length(), past.size()};
            return what < 0 || what > 15 ? -12 : accounts[what];
        }

        int urnOf(int urn, int what) {
            if (!m.has(urn)) return -11;
            int[] u = m.urns.get(urn);
            int[] numbers = {u[0], u[1], m.holds(urn), m.held(urn), or(m.weaks.get(urn)), u[2]};
            return what < 0 || what > 5 ? -12 : numbers[what];
        }
    }

    private static String someOrders() {
        StringBuilder text = new StringBuilder();
        int orders = 1 + pick(4);
        for (int i = 0; i < orders; i++) {
            text.append(i == 0 ? "" : ";");
            int a = pick(12);
            int b = pick(12);
            switch (pick(10)) {
                case 0: text.append("urn"); break;
                case 1: text.append("urn!"); break;
                case 2: text.append("tie ").append(a).append('.').append(pick(4)).append('=').append(b); break;
                case 3: text.append("untie ").append(a).append('.').append(pick(5)); break;
                case 4: text.append("name ").append((char) ('a' + pick(6))).append('=').append(b); break;
                case 5: text.append("drop ").append((char) ('a' + pick(6))); break;
                case 6: text.append("weak ").append(a).append('=').append(b); break;
                case 7: text.append("round"); break;
                case 8: text.append("step ").append(pick(100)); break;
                default: text.append("rite"); break;
            }
        }
        if (pick(4) == 0 && text.length() > 0) {
            text.setCharAt(pick(text.length()), "urntieamwkdop sf!;.=0179gx".charAt(pick(26)));
        }
        if (pick(6) == 0) {
            text.setLength(pick(text.length() + 1));
        }
        return text.substring(0, Math.min(60, text.length()));
    }

    private static int calls;
    private static int run;
    private static String last = "";

    private static void same(String what, double got, double want) {
        calls++;
        if (got != want) {
            System.out.println("ModelTest: run " + run + ", call " + calls + " (" + last + "): " + what + " answered " + got
                    + ", due is " + want);
            System.exit(1);
        }
    }

    private static int near(int bound) {
        return pick(40) == 0 ? pick(60) - 20 : pick(bound);
    }

    public static void main(String[] args) {
        int most = 0;
        for (run = 0; run < RUNS; run++) {
            seed = run * 7919L + 17;
            calls = 0;
            UrnHeap x = new UrnHeap();
            Asked y = new Asked();
            int urns = 3 + pick(22);
            int rounds = pick(3);
            while (calls < MOST_CALLS - LAST_LOOKS) {
                oneCall(x, y, urns, rounds);
            }
            int urn = pick(urns);
            for (int what = 0; what < LOOKS; what++) {
                look(x, y, what, urn, pick(4), pick(6));
            }
            most = Math.max(most, calls);
        }
        if (most > MOST_CALLS) {
            System.out.println("ModelTest: " + most + " calls on one object");
            System.exit(1);
        }
        System.out.println("ModelTest: " + RUNS + " runs of calls, all answers are the model's");
    }

    private static void oneCall(UrnHeap x, Asked y, int urns, int rounds) {
        int a = near(urns);
        int b = near(urns);
        int slot = near(4);
        int name = near(6);
        int parts = pick(20) == 0 ? near(99) : 1 + pick(4);
        int kind = pick(100);
        last = kind + " " + a + " " + b + " " + slot + " " + name + " " + parts;
        if (kind < 12) {
            boolean rite = pick(3) == 0;
            same("urn", x.urn(rite), y.change(0, rite ? 1 : 0, 0, 0));
        } else if (kind < 30) {
            same("tie", x.tie(a, slot, b), y.change(1, a, slot, b));
        } else if (kind < 34) {
            same("untie", x.untie(a, slot), y.change(2, a, slot, 0));
        } else if (kind < 40) {
            same("weak", x.weak(a, b), y.change(3, a, b, 0));
        } else if (kind < 42) {
            same("unweak", x.unweak(a), y.change(4, a, 0, 0));
        } else if (kind < 47) {
            same("name", x.name(name, a), y.change(5, name, a, 0));
        } else if (kind < 50) {
            same("drop", x.drop(name), y.change(6, name, 0, 0));
        } else if (kind < 53) {
            same("begin", x.begin(), y.change(7, 0, 0, 0));
        } else if (kind < 53 + 8 * rounds) {
            same("step", x.step(parts), y.change(8, parts, 0, 0));
        } else if (kind < 71) {
            if (pick(rounds + 1) == 0) {
                same("round", x.round(), y.change(9, 0, 0, 0));
            } else {
                same("step", x.step(parts), y.change(8, parts, 0, 0));
            }
        } else if (kind < 74) {
            same("rite", x.rite(), y.change(10, 0, 0, 0));
        } else if (kind < 78) {
            String text = someOrders();
            for (int i = 0; i < text.length() && y.text.length() < 60; i++) {
                y.text += text.charAt(i);
                same("append", x.append(text.charAt(i)), y.text.length());
            }
            same("run " + y.text, x.run(), y.change(12, 0, 0, 0));
        } else if (kind < 81) {
            undo(x, y);
        } else if (kind < 82) {
            y.saved = y.m.copy();
            same("save", x.save(), y.m.urns.size());
        } else if (kind < 83) {
            if (y.saved != null) {
                y.m = y.saved.copy();
                y.past.clear();
            }
            same("restore", x.restore(), y.saved == null ? -15 : y.m.urns.size());
        }
        if (pick(3) == 0) {
            look(x, y, pick(LOOKS), a, slot, name);
        }
    }

    private static void undo(UrnHeap x, Asked y) {
        int left = y.past.size() - 1;
        if (left >= 0) {
            y.m = y.past.remove(left);
        }
        same("undo", x.undo(), left < 0 ? -15 : left);
    }

    private static void look(UrnHeap x, Asked y, int kind, int a, int slot, int name) {
        boolean has = y.m.has(a);
        switch (kind) {
            case 0: for (int what = -1; what <= 6; what++) same("urnOf " + what, x.urnOf(a, what), y.urnOf(a, what)); break;
            case 1: same("threadOf", x.threadOf(a, slot),
                    has && slot >= 0 && slot < 4 ? Asked.or(y.m.threads.get(a * 4 + slot)) : -11); break;
            case 2: same("named", x.named(name), name < 0 || name > 5 ? -11 : Asked.or(y.m.names.get(name))); break;
            case 3: same("due", x.due(a), Asked.at(y.m.dues, a)); break;
            case 4: same("due 0", x.due(0), Asked.at(y.m.dues, 0)); break;
            case 5: same("grey", x.grey(a), Asked.at(y.m.greys, a)); break;
            case 6: same("grey 0", x.grey(0), Asked.at(y.m.greys, 0)); break;
            case 7: same("freed", x.freed(a), a > 11 ? -11 : Asked.at(y.m.freed, a)); break;
            case 8: same("live", x.live(), Asked.bits(depths(y).keySet())); break;
            case 9: same("liveAgain", x.liveAgain(), Asked.bits(depths(y).keySet())); break;
            case 10: same("depth", x.depth(a), has ? Asked.or(depths(y).get(a)) : -11); break;
            case 11: same("keepers", x.keepers(a), has ? y.keepers(a) : -11); break;
            case 12: same("ring", x.ring(a), has ? y.ring(a) : -11); break;
            case 13: same("wouldFree", x.wouldFree(), y.wouldFree()); break;
            case 14: same("ranked", x.ranked(a), y.ranked(a)); break;
            case 15: for (int what = -1; what <= 16; what++) same("account " + what, x.account(what), y.account(what)); break;
            case 16: same("reason", x.reason(false), y.reason); break;
            case 17: same("detail", x.reason(true), y.detail); break;
            case 18: same("isBalanced", x.isBalanced(), 1); break;
            case 19: same("meanHeld", x.meanHeld(), y.m.urns.isEmpty() ? 0.0 : (double) heldInAll(y) / y.m.urns.size()); break;
            case 20: same("liveShare", x.liveShare(), y.m.urns.isEmpty() ? 0.0f : (float) depths(y).size() / y.m.urns.size()); break;
            case 21:
                y.line = has ? y.told(a) : y.line;
                same("tell", x.tell(a), has ? y.line.length() : -11);
                sameLine(x, y);
                break;
            default:
                y.line = y.heap();
                same("tellHeap", x.tellHeap(), 24);
                sameLine(x, y);
        }
    }

    private static TreeMap<Integer, Integer> depths(Asked y) {
        return y.m.depths(y.m.roots(-1));
    }

    private static int heldInAll(Asked y) {
        int sum = 0;
        for (int urn : y.m.urns.keySet()) {
            sum += y.m.held(urn);
        }
        return sum;
    }

    private static void sameLine(UrnHeap x, Asked y) {
        for (int i = 0; i <= y.line.length(); i++) {
            same("sign " + i + " of " + y.line, x.character(i), i < y.line.length() ? y.line.charAt(i) : -11);
        }
    }
}
