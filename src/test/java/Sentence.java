import java.io.IOException;
import java.lang.reflect.InvocationTargetException;
import java.lang.reflect.Method;
import java.nio.file.Files;
import java.nio.file.Path;
import java.util.ArrayList;
import java.util.List;
import java.util.Map;
import java.util.TreeMap;

/**
 * A sentence of the document, and runs of calls that go wrong if it is broken.
 *
 * A run is made of steps: "&lt;TEXT" feeds a text behind the tape; "&gt;TEXT" makes a text the
 * kitchen; any other step is calls with their answers, "say 0 1 = -5; left = ?" (? is any).
 */
final class Sentence {
    static final int TERMS = 0;
    static final String ONE = "kitchen;claim so cost 1 found 1;";
    static final String TWO = ONE + "claim not cost 1 found 1;";
    static final String NINE = "kitchen;" + "claim so cost 1 found 1;".repeat(9);
    /** No story is sound. */
    static final String IMPOSSIBLE = ONE + "known 0;law some not 0;";
    /** TRUTH is 5 and breaks law 1; 1, 2, 3 are sound; 2 alone holds. */
    static final String K = "kitchen;\n"
            + "claim so cost 5 found 10 owns 7; claim not cost 3 found 20;\n"
            + "claim so cost 2 found 50 owns 1; claim not cost 4 found 0 owns 0;\n"
            + "law if not 0 then 1; law some 1 not 2 3; law bars 1 2; known 3; wants not 0;\n"
            + "person cost 9 knows 0 1; person cost 1 knows 2 2; person cost 0 knows 3 0;";
    /** Of everything something: said, two images, three rows (one without numbers), a tape. */
    static final String[] RICH = {">" + K, "keep 0 = 0; wish 0 -1 = 0; say 1 1 = 2; keep 2 = 0; say 0 1 = 1",
        "row 0 0 4 = 0; write 0 0 1 = 0; write 0 1 1 = 0; row 1 2 2 = 0; write 1 0 2 = 0; row 2 3 0 = 0",
        "<kitchen;claim so cost 1 found 2;"};

    private static final int CALL_LIMIT = 512;
    private static final Map<String, Method> METHODS = new TreeMap<>();
    private static final Map<Integer, String> SECTIONS = new TreeMap<>();
    private static final Map<Integer, Integer> TESTED = new TreeMap<>();

    static {
        for (Method m : LieKitchen.class.getDeclaredMethods()) {
            if (java.lang.reflect.Modifier.isPublic(m.getModifiers())) {
                METHODS.put(m.getName(), m);
            }
        }
    }

    private Sentence() {
    }

    // ---- the document's words

    private static String plain(String text) {
        return text.replaceAll("\\s+", " ");
    }

    private static String section(int promise) {
        return SECTIONS.computeIfAbsent(promise, p -> {
            try {
                String doc = Files.readString(Path.of("../shared/DOC.md"));
                int start = doc.indexOf(p == TERMS ? "## Terms" : "## Promise " + p + ":");
                return plain(doc.substring(start, doc.indexOf("\n## ", start + 1)));
            } catch (IOException e) {
                throw new IllegalStateException(e);
            }
        });
    }

    private static String name(int promise, String words) {
        Check.isTrue("the document says in " + promise + ": " + words, section(promise).contains(plain(words)));
        TESTED.merge(promise, 1, Integer::sum);
        return (promise == TERMS ? "Terms" : "Promise " + promise) + ", \"" + words + "\"";
    }

    static void eachOf(int first, int last) {
        for (int p = first; p <= last; p++) {
            Check.isTrue("a sentence of promise " + p, TESTED.containsKey(p));
        }
    }

    // ---- runs

    /** One object, and the calls that it has had. */
    private static final class Run {
        final LieKitchen x = new LieKitchen();
        final String name;
        int calls = 0;

        Run(String name, String... steps) {
            this.name = name;
            for (String step : steps) {
                take(step);
            }
        }

        void take(String step) {
            if (step.startsWith("<")) {
                feed(step.substring(1));
            } else if (step.startsWith(">")) {
                call("end 0");
                feed(step.substring(1));
                Check.isTrue(name + ": a kitchen " + step, call("kitchen") > 0);
            } else {
                for (String one : step.split("[;\n]")) {
                    if (!one.isBlank()) {
                        check(one.strip());
                    }
                }
            }
        }

        void check(String callAndAnswer) {
            String[] parts = callAndAnswer.split("=");
            long answer = call(parts[0].strip());
            if (!parts[1].strip().equals("?")) {
                Check.due(name + ": " + parts[0].strip(), answer, Long.parseLong(parts[1].strip()));
            }
        }

        void feed(String text) {
            int had = (int) call("count 6");
            byte[] b = Check.bytes(text);
            for (int k = 0; 4 * k < b.length; k += 5) {
                int[] n = new int[5];
                for (int i = 0; i < 5; i++) {
                    n[i] = Check.number(b, k + i);
                }
                Check.isTrue(name + ": room on the tape", x.feed(n[0], n[1], n[2], n[3], n[4]) > 0);
                calls++;
            }
            call("end " + (had + b.length));
        }

        /** A call is its name and its numbers; MIN and MAX are the ends of int. */
        long call(String text) {
            String[] parts = text.split(" +");
            Method m = METHODS.get(parts[0]);
            Object[] args = new Object[parts.length - 1];
            for (int i = 0; i < args.length; i++) {
                long v = parts[i + 1].equals("MIN") ? Integer.MIN_VALUE
                        : parts[i + 1].equals("MAX") ? Integer.MAX_VALUE : Long.parseLong(parts[i + 1]);
                args[i] = m.getParameterTypes()[i] == int.class ? (Object) Math.toIntExact(v) : (Object) v;
            }
            calls++;
            Check.isTrue(name + ": no more than " + CALL_LIMIT + " calls", calls <= CALL_LIMIT);
            try {
                return ((Number) m.invoke(x, args)).longValue();
            } catch (IllegalAccessException | InvocationTargetException e) {
                throw new IllegalStateException(name + ": " + text, e);
            }
        }
    }

    /** A run of calls, each with its answer. */
    static void holds(int promise, String words, String... steps) {
        new Run(name(promise, words), steps);
    }

    /** What a call answers behind a run. */
    static long answer(int promise, String words, String call, String... steps) {
        return new Run(name(promise, words), steps).call(call);
    }

    static long answer(String call, String... steps) {
        return new Run(call, steps).call(call);
    }

    /** The text has a fault there, and all stays as it was. */
    static void fault(String words, String text, int fault, int place) {
        new Run(name(TERMS, words) + " in " + text, "<" + text, "kitchen = -4; fault 0 = " + fault + "; fault 1 = "
                + place + "; count 6 = " + Check.bytes(text).length + "; truth = -2; count 5 = 0");
    }

    /** The fault is at the text's last token, whatever comes behind it. */
    static void faultAtLast(String words, String text, int fault) {
        int place = Math.max(text.lastIndexOf(' '), text.lastIndexOf(';')) + 1;
        place = text.endsWith(";") ? text.length() - 1 : place;
        fault(words, text, fault, place);
        fault(words, text + " # 999 law;", fault, place);
    }

    static void good(String words, String text, int lines) {
        new Run(name(TERMS, words) + " in " + text, "<" + text, "kitchen = " + lines + "; fault 0 = 0; fault 1 = -1");
    }

    // ---- what stays

    /** Each of the calls answers so, and behind it everything is as without it. */
    static void stays(int promise, String words, String[] steps, String calls) {
        String name = name(promise, words);
        for (String one : calls.split("[;\n]")) {
            if (!one.isBlank()) {
                boolean reads = one.strip().startsWith("kitchen");
                for (int view = 0; view < VIEWS; view++) {
                    Run with = new Run(name, steps);
                    with.check(one.strip());
                    List<Long> is = view(with, view, !reads);
                    List<Long> was = view(new Run(name, steps), view, !reads);
                    Check.isTrue(name + ": all stays behind " + one.strip() + ", view " + view, is.equals(was));
                }
            }
        }
    }

    private static final int VIEWS = 9;

    private static List<Long> view(Run run, int view, boolean faults) {
        List<Long> seen = new ArrayList<>();
        if (view >= 5) {
            seeRow(run, view - 5, seen);
            return seen;
        }
        if (view == 1) {
            seen.add(run.call("kitchen"));
        } else if (view >= 2) {
            seen.add(run.call("back " + (view - 2)));
        }
        seeKitchen(run, seen);
        if (faults) {
            seen.add(run.call("fault 0"));
            seen.add(run.call("fault 1"));
        }
        return seen;
    }

    private static void seeKitchen(Run run, List<Long> seen) {
        long claims = run.call("count 0");
        for (int what = 0; what < 9; what++) {
            seen.add(run.call("count " + what));
            seen.add(run.call("said " + what));
            for (int each = 0; each < claims; each++) {
                seen.add(run.call("claim " + each + " " + what));
            }
        }
        for (int each = 0; each < 5; each++) {
            for (int what = 0; what < 2; what++) {
                seen.add(run.call("law " + each + " " + what));
                seen.add(run.call("person " + each + " " + what));
            }
            seen.add(run.call("story " + each));
            seen.add(run.call("may " + each));
        }
        for (String call : List.of("truth", "stories", "told", "cheaply", "left", "forced", "lied", "still", "naive 1",
                "mated", "confessed", "caught", "clashed", "safest", "fixed 0", "fixed 1")) {
            seen.add(run.call(call));
        }
        for (int slot = 0; slot < 4; slot++) {
            seen.add(run.call("judge " + slot));
            seen.add(run.call("must " + slot + " 0"));
        }
    }

    /** A row's width, how many numbers it has, and which of 0 .. 8 they are. */
    private static void seeRow(Run run, int slot, List<Long> seen) {
        int other = (slot + 1) % 4;
        run.take(">" + NINE);
        for (int width = 0; width < 4; width++) {
            run.call("row " + other + " " + width + " 2");
            run.call("write " + other + " 1 1");
            long answer = run.call("paste " + slot + " 0 " + other + " 0 0");
            seen.add(answer);
            for (int i = 0; i < 60 && answer == 0; i++) {
                seen.add(run.call("paste " + slot + " " + i + " " + other + " 0 1"));
                seen.add(run.call("must " + other + " 0"));
            }
        }
    }
}
