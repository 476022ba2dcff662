import java.lang.reflect.InvocationTargetException;
import java.lang.reflect.Method;
import java.nio.file.Files;
import java.nio.file.Path;
import java.util.ArrayList;
import java.util.HashMap;
import java.util.List;
import java.util.Map;
import java.util.TreeMap;
import java.util.regex.Matcher;
import java.util.regex.Pattern;

/**
 * Each sentence of ../shared/DOC.md that names an edge has a test of its own in src/test/edges.
 *
 * "== " begins the tests of a section: the terms, or a promise. "-- " begins a test by the words of
 * that section which it tests; they must stand there. "!! " tells words without an edge. A part of a
 * sentence of which no word is under test is a fault, so that none is forgotten. "#" begins a comment.
 *
 * A test is written as the document's examples are, call by call, with what is due behind ":"; each
 * begins with a new object. "3*urn(false): 0 1 2" is three calls, as is "due(0..2): 4..6"; one answer
 * for several calls is due for each of them; "{0 2}" is a set. Words that are no calls of the face:
 * new() another object; type("..") appends each character; line("..") the line is this; heap("..")
 * tellHeap writes this, and empty cells behind it; refused(r, d) the reason and its detail; keep(),
 * same(), differs() all that changes can change is kept, is as it was kept, or is not.
 */
public final class EdgesTest {
    private static final int MOST_CALLS = 512;
    private static final Map<String, String> WORDS = Map.of("NONE", "-11", "BAD", "-12", "FULL", "-13", "REFUSED", "-14",
            "NOTHING", "-15", "MIN", "-2147483648", "MAX", "2147483647");
    private static final Pattern CALL = Pattern.compile("(?:(\\d+)\\*)?(\\w+)\\((.*?)\\)(?:: (.+))?");
    private static final Pattern SEPARATOR = Pattern.compile(";(?=(?:[^\"]*\"[^\"]*\")*[^\"]*$)");
    private static final Pattern ANSWER = Pattern.compile("\\{[^}]*\\}|\\S+");
    private static final Pattern RANGE = Pattern.compile("(\\d+)\\.\\.(\\d+)");
    private static final Map<String, Method> FACE = new HashMap<>();

    private static final List<String> faults = new ArrayList<>();
    private static int tests = 0;
    private static int answers = 0;
    private static String test = "";

    private static UrnHeap heap;
    /** What was called on the object, so that another one can be looked at in its place. */
    private static final List<Object[]> calls = new ArrayList<>();
    private static String kept = "";

    public static void main(String[] args) throws Exception {
        for (Method method : UrnHeap.class.getDeclaredMethods()) {
            FACE.put(method.getName(), method);
        }
        TreeMap<String, String> sections = sections(Files.readString(Path.of("../shared/DOC.md")));
        TreeMap<String, List<String>> quotes = new TreeMap<>();
        for (String file : List.of("terms.txt", "promises.txt")) {
            runAll(Files.readAllLines(Path.of("src/test/edges", file)), quotes);
        }
        for (String section : sections.keySet()) {
            lookForForgotten(section, sections.get(section), quotes.getOrDefault(section, List.of()));
        }
        faults.forEach(System.out::println);
        System.out.println("EdgesTest: " + tests + " tests, " + answers + " answers, " + faults.size() + " wrong");
        if (!faults.isEmpty()) {
            System.exit(1);
        }
    }

    private static void fault(String what) {
        faults.add(test + ": " + what);
    }

    // ---- the document and its words

    private static TreeMap<String, String> sections(String document) {
        TreeMap<String, String> sections = new TreeMap<>();
        for (String part : document.split("(?m)^## ")) {
            String title = part.lines().findFirst().orElse("");
            String key = title.startsWith("Promise") ? title.substring(0, title.indexOf(':')) : title;
            if (key.startsWith("Promise") || key.equals("Terms")) {
                sections.put(key, promised(flat(part.substring(title.length()))));
            }
        }
        return sections;
    }

    /** Without what FaceTest looks at. */
    private static String promised(String text) {
        return text.replaceFirst("^`[^`]*\\)`: ", "").replaceFirst("Ahead of the calls .*", "");
    }

    private static String flat(String text) {
        return text.replace("```text", "").replace("```", "").replaceAll("\\s+", " ").trim();
    }

    private static void lookForForgotten(String section, String text, List<String> quotes) {
        test = section;
        boolean[] isQuoted = new boolean[text.length()];
        for (String quote : quotes) {
            int at = text.indexOf(quote);
            if (at < 0) {
                fault("these words do not stand there: " + quote);
            }
            for (; at >= 0; at = text.indexOf(quote, at + 1)) {
                java.util.Arrays.fill(isQuoted, at, at + quote.length(), true);
            }
        }
        int from = 0;
        for (String part : text.split("(?<=[.,;:]) ")) {
            boolean isTested = false;
            for (int i = from; i < from + part.length(); i++) {
                isTested |= isQuoted[i];
            }
            boolean isExample = section.equals("Terms") && from > text.indexOf("Examples:") && from < text.indexOf("The constants:");
            if (!isTested && !isExample && !part.matches("\\S{1,20}[.,;:]")) {
                fault("no test for: " + part);
            }
            from += part.length() + 1;
        }
    }

    // ---- the tests

    private static void runAll(List<String> lines, TreeMap<String, List<String>> quotes) throws Exception {
        String section = "";
        for (String line : lines) {
            if (line.startsWith("== ")) {
                section = line.substring(3).replaceAll("[:,].*", "");
                quotes.putIfAbsent(section, new ArrayList<>());
            } else if (line.startsWith("-- ") || line.startsWith("!! ")) {
                quotes.get(section).add(line.substring(3));
                test = section + ", " + line.substring(3);
                tests += line.startsWith("-- ") ? 1 : 0;
                newHeap();
                kept = "";
            } else if (!line.isBlank() && !line.startsWith("#")) {
                for (String call : SEPARATOR.split(line)) {
                    runOne(call.trim());
                }
            }
        }
    }

    private static void newHeap() {
        heap = new UrnHeap();
        calls.clear();
    }

    private static void runOne(String text) throws Exception {
        Matcher call = CALL.matcher(text);
        if (!call.matches()) {
            fault("is no call: " + text);
            return;
        }
        List<Object> got = new ArrayList<>();
        int times = call.group(1) == null ? 1 : Integer.parseInt(call.group(1));
        for (int i = 0; i < times; i++) {
            doCall(call.group(2), call.group(3), got);
        }
        if (call.group(4) == null) {
            return;
        }
        List<String> due = answersOf(call.group(4));
        if (due.size() != 1 && due.size() != got.size()) {
            fault(text + " is " + got.size() + " calls, with " + due.size() + " answers");
            return;
        }
        for (int i = 0; i < got.size(); i++) {
            compare(text, got.get(i), due.get(due.size() == 1 ? 0 : i));
        }
    }

    private static void compare(String text, Object got, String due) {
        answers++;
        Object want = got instanceof Double ? (Object) Double.valueOf(due)
                : got instanceof Float ? (Object) Float.valueOf(due) : Integer.valueOf(due);
        if (!got.equals(want)) {
            fault(text + " answered " + got + ", due is " + due);
        }
    }

    private static List<String> answersOf(String text) {
        List<String> all = new ArrayList<>();
        Matcher answer = ANSWER.matcher(text);
        while (answer.find()) {
            if (answer.group().startsWith("{")) {
                int set = 0;
                for (String urn : answer.group().replaceAll("[{}]", "").trim().split(" ")) {
                    set |= urn.isEmpty() ? 0 : 1 << Integer.parseInt(urn);
                }
                all.add("" + set);
            } else {
                all.addAll(valuesOf(answer.group()));
            }
        }
        return all;
    }

    private static List<String> valuesOf(String text) {
        List<String> all = new ArrayList<>();
        Matcher range = RANGE.matcher(text);
        if (!range.matches()) {
            all.add(WORDS.getOrDefault(text, text));
            return all;
        }
        int last = Integer.parseInt(range.group(2));
        int value = Integer.parseInt(range.group(1));
        int by = value <= last ? 1 : -1;
        for (; value != last + by; value += by) {
            all.add("" + value);
        }
        return all;
    }

    // ---- calls

    private static void doCall(String name, String arguments, List<Object> got) throws Exception {
        String quoted = arguments.startsWith("\"") ? arguments.substring(1, arguments.length() - 1) : arguments;
        switch (name) {
            case "new": newHeap(); break;
            case "type": got.add(type(quoted)); break;
            case "line": same("the line", line(), quoted); break;
            case "heap": call("tellHeap"); same("the heap", line(), quoted + ".".repeat(24 - quoted.length())); break;
            case "refused": refused(quoted.split(", ")); break;
            case "keep": kept = picture(); break;
            case "same": same("the heap", picture(), kept); break;
            case "differs": same("whether it differs", "" + !picture().equals(kept), "true"); break;
            default: callEach(name, new ArrayList<>(), arguments.isEmpty() ? new String[0] : arguments.split(", "), got);
        }
    }

    private static void same(String what, String got, String due) {
        answers++;
        if (!got.equals(due)) {
            fault(what + " is " + got + ", due is " + due);
        }
    }

    private static void refused(String[] due) throws Exception {
        same("the reason", "" + call("reason", false), due[0]);
        same("the detail", "" + call("reason", true), due[1]);
    }

    private static Object type(String text) throws Exception {
        Object length = 0;
        for (char sign : text.toCharArray()) {
            length = call("append", (int) sign);
            if ((int) length < 0) {
                fault("append of " + sign + " answered " + length);
            }
        }
        return length;
    }

    private static String line() throws Exception {
        StringBuilder line = new StringBuilder();
        for (int sign = (int) call("character", 0); sign >= 0; sign = (int) call("character", line.length())) {
            line.append((char) sign);
        }
        return line.toString();
    }

    private static void callEach(String name, List<Object> values, String[] arguments, List<Object> got) throws Exception {
        if (values.size() == arguments.length) {
            got.add(call(name, values.toArray()));
            return;
        }
        for (String value : valuesOf(arguments[values.size()])) {
            List<Object> more = new ArrayList<>(values);
            more.add(value.equals("true") || value.equals("false") ? (Object) Boolean.valueOf(value) : Integer.valueOf(value));
            callEach(name, more, arguments, got);
        }
    }

    private static Object call(String name, Object... values) throws Exception {
        Object[] call = {name, values};
        calls.add(call);
        if (calls.size() > MOST_CALLS) {
            fault("more than " + MOST_CALLS + " calls");
        }
        return answer(heap, call);
    }

    private static Object answer(UrnHeap object, Object[] call) throws Exception {
        Method method = FACE.get((String) call[0]);
        if (method == null) {
            fault("there is no call " + call[0]);
            return 0;
        }
        try {
            return method.invoke(object, (Object[]) call[1]);
        } catch (InvocationTargetException thrown) {
            fault(call[0] + " threw " + thrown.getCause());
            return 0;
        }
    }

    // ---- pictures

    /** All that the face tells of what changes can change, of another object with the same calls: looking costs calls. */
    private static String picture() throws Exception {
        UrnHeap other = new UrnHeap();
        for (Object[] call : calls) {
            answer(other, call);
        }
        StringBuilder all = new StringBuilder();
        int looks = 0;
        for (int urn = 0; urn < 24; urn++) {
            for (int what = 0; what < 6 && other.urnOf(urn, 0) >= 0; what++) {
                all.append(other.urnOf(urn, what)).append(what < 4 ? "," + other.threadOf(urn, what) + " " : " ");
                looks += 3;
            }
            all.append("; ");
        }
        for (int place = 0; other.due(place) >= 0 || other.grey(place) >= 0 || other.freed(place) >= 0; place++) {
            all.append(other.due(place)).append(',').append(other.grey(place)).append(',').append(other.freed(place)).append(' ');
            looks += 6;
        }
        for (int name = 0; name < 6; name++) {
            all.append(other.named(name)).append(' ');
        }
        for (int what = 0; what <= 13; what++) {
            all.append(other.account(what)).append(' ');
        }
        if (calls.size() + looks + 50 > MOST_CALLS) {
            fault("more than " + MOST_CALLS + " calls with those of a picture");
        }
        return all.toString();
    }
}
