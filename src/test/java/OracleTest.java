import java.lang.reflect.InvocationTargetException;
import java.lang.reflect.Method;
import java.util.ArrayList;
import java.util.Arrays;
import java.util.List;
import java.util.Map;
import java.util.Random;
import java.util.TreeMap;

/** Random runs of calls on LieKitchen and on the Oracle: every answer has to be the same. */
public final class OracleTest {
    /**
     * What each method's arguments are: c claim, l law, p person, s story or set, q set of
     * people, w what, d days, k image, t slot, i index, b 0 or 1, e seed, m 1 .. 20, z width,
     * n length, v value, o price, j wish.
     */
    private static final String SPECS = "end:n kitchen: fault:w claim:cw law:lw person:pw truth: breaks:s broken:s"
            + " holds:s untrue:s costs:s stories: story:i fewest: told: cheap: cheaply: clash: clashed: lie:c needs:c"
            + " risk:sdw safest: own:c owning: spares:c confess: confessed: spread:c apart:pp trusts:p catches:"
            + " caught: knowing:s fixed:w judge:t fits:t must:tw least:t lies:t ask:t leaves:t likely:tw say:cb"
            + " unsay: anew: said:i may:c left: forced: lied: still: witnesses:s mates: mated: quiet:q few: whom:"
            + " slips:p naive:w change:i drawn:esdw luck:emsd learn:cb wish:cj price:cwo count:w keep:k back:k"
            + " row:tzn write:tiv paste:titin";
    private static final String[] BYTES = {"K", "#", "\t", "\0", "\r", ".", "-", "\u00ff", "\u0080", ":", "`", "{", "/"};

    private final Random random;
    private final Map<String, Method> mine = new TreeMap<>();
    private final Map<String, Method> theirs = new TreeMap<>();
    private final Map<String, String> specs = new TreeMap<>();
    private final List<String> names = new ArrayList<>();
    private final Map<String, Map<Long, Integer>> seen = new TreeMap<>();
    private LieKitchen x;
    private Oracle y;
    private List<String> log;

    private OracleTest(long seed) {
        random = new Random(seed);
        for (String spec : SPECS.split(" ")) {
            String[] parts = spec.split(":", -1);
            names.add(parts[0]);
            specs.put(parts[0], parts[1]);
        }
        names.add("feed");
        for (String name : names) {
            mine.put(name, find(LieKitchen.class, name));
            theirs.put(name, find(Oracle.class, name));
        }
        names.remove("feed");
    }

    private static Method find(Class<?> where, String name) {
        for (Method m : where.getDeclaredMethods()) {
            boolean numbers = Arrays.stream(m.getParameterTypes()).allMatch(t -> t == int.class || t == long.class);
            if (m.getName().equals(name) && numbers) {
                m.setAccessible(true);
                return m;
            }
        }
        throw new IllegalStateException(name);
    }

    public static void main(String[] args) throws Exception {
        int runs = args.length > 0 ? Integer.parseInt(args[0]) : 1500;
        OracleTest test = new OracleTest(args.length > 1 ? Long.parseLong(args[1]) : 20261118L);
        for (int run = 0; run < runs && Check.wrong() == 0; run++) {
            test.run(run);
        }
        test.eachMethodHasSeveralAnswers();
        Check.finish();
    }

    /** So that the random runs do not miss a whole promise. */
    private void eachMethodHasSeveralAnswers() {
        for (String name : names) {
            Check.isTrue(name + " has several answers: " + seen.get(name), seen.get(name) != null && seen.get(name).size() > 1);
        }
    }

    private void run(int run) throws Exception {
        x = new LieKitchen();
        y = new Oracle();
        log = new ArrayList<>();
        int calls = 1 + random.nextInt(400);
        boolean early = random.nextInt(10) == 0;
        for (int i = 0; i < calls && Check.wrong() == 0; i++) {
            if (i == 0 && !early || random.nextInt(60) == 0) {
                tell();
            } else if (random.nextInt(12) == 0) {
                answers();
            } else {
                String name = names.get(random.nextInt(names.size()));
                if (name.equals("kitchen") && random.nextInt(4) != 0 || name.equals("back") && random.nextInt(2) == 0) {
                    continue;
                }
                call(run, name, arguments(name));
            }
        }
    }

    private void call(int run, String name, Object... args) throws Exception {
        log.add(name + Arrays.toString(args));
        long due = ((Number) theirs.get(name).invoke(y, args)).longValue();
        long got;
        try {
            got = ((Number) mine.get(name).invoke(x, args)).longValue();
        } catch (InvocationTargetException e) {
            System.out.println("run " + run + ": " + log);
            throw e;
        }
        seen.computeIfAbsent(name, k -> new TreeMap<>()).merge(due, 1, Integer::sum);
        if (got != due) {
            System.out.println("run " + run + ": " + log);
        }
        Check.due("run " + run + ": " + name + Arrays.toString(args), got, due);
    }

    /** A text is fed, now and then with a fault or behind another text, and made a kitchen. */
    private void tell() throws Exception {
        if (random.nextInt(5) != 0) {
            call(-1, "end", 0);
        }
        int had = x.count(6);
        String text = text();
        byte[] b = Check.bytes(text);
        for (int k = 0; 4 * k < b.length; k += 5) {
            call(-1, "feed", Check.number(b, k), Check.number(b, k + 1), Check.number(b, k + 2),
                    Check.number(b, k + 3), Check.number(b, k + 4));
        }
        log.add(text);
        call(-1, "end", had + b.length);
        call(-1, "kitchen");
        call(-1, "fault", 0);
        call(-1, "fault", 1);
    }

    private void answers() throws Exception {
        int slot = random.nextInt(4);
        int n = random.nextInt(10) == 0 ? 3 : 2 * random.nextInt(5);
        call(-1, "row", slot, random.nextInt(4), n);
        int start = Math.max(0, x.truth());
        for (int i = 0; i < n; i++) {
            int claim = random.nextInt(Math.max(1, x.count(0)));
            boolean odd = random.nextInt(40) == 0;
            long v = i % 2 == 0 ? claim : random.nextInt(2);
            call(-1, "write", slot, i, odd ? oddNumber() : v);
        }
        for (String name : List.of("judge", "fits", "least", "lies", "ask", "leaves")) {
            call(start, name, slot);
        }
        for (String name : List.of("must", "likely")) {
            call(start, name, slot, 0);
            call(start, name, slot, 1);
        }
    }

    private long oddNumber() {
        return switch (random.nextInt(5)) {
            case 0 -> 256;
            case 1 -> 65537;
            case 2 -> 1L << 32;
            case 3 -> -1;
            default -> random.nextLong();
        };
    }

    private Object[] arguments(String name) {
        String spec = specs.get(name);
        Object[] args = new Object[spec.length()];
        for (int i = 0; i < args.length; i++) {
            int value = random.nextInt(25) == 0 ? wild() : argument(spec.charAt(i));
            args[i] = spec.charAt(i) == 'v' ? (Object) (random.nextInt(3) == 0 ? oddNumber() : (long) value) : value;
        }
        return args;
    }

    private int wild() {
        int[] all = {-1, -2, Integer.MIN_VALUE, Integer.MAX_VALUE, 9, 16, 60, 61, 512, 1 << 30, 2000000001, 100, 101};
        return random.nextInt(3) == 0 ? random.nextInt() : all[random.nextInt(all.length)];
    }

    private int argument(char kind) {
        switch (kind) {
            case 'c':
                return random.nextInt(x.count(0) + 1);
            case 'l':
                return random.nextInt(x.count(1) + 1);
            case 'p':
                return random.nextInt(x.count(2) + 1);
            case 's':
                return random.nextInt((1 << x.count(0)) + 1);
            case 'q':
                return random.nextInt((1 << x.count(2)) + 1);
            case 'w':
                return random.nextInt(random.nextInt(3) == 0 ? 10 : 4);
            case 'd':
                return 1 + random.nextInt(random.nextBoolean() ? 3 : 60);
            case 'e':
                return random.nextInt(20) == 0 ? 2000000000 : random.nextInt(2000000001);
            case 'm':
                return 1 + random.nextInt(20);
            case 'n':
                return random.nextInt(5) == 0 ? random.nextInt(62) : random.nextInt(7);
            case 'o':
                return random.nextInt(103) - 1;
            case 'j':
                return random.nextInt(3) - 1;
            case 'i':
                return random.nextInt(8);
            case 'b':
                return random.nextInt(2);
            default:
                return random.nextInt(4);
        }
    }

    // ---- texts

    private String text() {
        List<String> tokens = new ArrayList<>(List.of("kitchen", ";"));
        int claims = random.nextInt(10);
        int laws = random.nextInt(random.nextInt(4) == 0 ? 17 : 7);
        int people = random.nextInt(7);
        int[] told = {0};
        for (int i = 0; i < claims; i++) {
            claimLine(tokens);
            told[0]++;
            while (random.nextInt(4) == 0 && laws > 0) {
                lawLine(tokens, told[0]);
                laws--;
            }
        }
        while (claims > 0 && laws-- > 0) {
            lawLine(tokens, claims);
        }
        List<Integer> known = new ArrayList<>();
        for (int i = 0; i < claims; i++) {
            if (random.nextInt(6) == 0) {
                known.add(i);
            }
        }
        known.forEach(c -> tokens.addAll(List.of("known", "" + c, ";")));
        for (int i = 0; claims > 0 && i < random.nextInt(5); i++) {
            tokens.add("wants");
            literal(tokens, random.nextInt(claims));
            tokens.add(";");
        }
        for (int i = 0; claims > 0 && i < people; i++) {
            tokens.addAll(List.of("person", "cost", "" + random.nextInt(100), "knows"));
            for (int k = 0; k <= random.nextInt(4); k++) {
                tokens.add("" + random.nextInt(claims));
            }
            tokens.add(";");
        }
        while (random.nextInt(5) == 0) {
            spoil(tokens);
        }
        return join(tokens);
    }

    private void claimLine(List<String> tokens) {
        tokens.addAll(List.of("claim", random.nextBoolean() ? "so" : "not", "cost", "" + small(99), "found", "" + small(100)));
        if (random.nextBoolean()) {
            tokens.addAll(List.of("owns", "" + small(99)));
        }
        tokens.add(";");
    }

    /** Small ones often, for costs that are alike. */
    private int small(int limit) {
        return random.nextInt(3) == 0 ? random.nextInt(limit + 1) : random.nextInt(4);
    }

    private void lawLine(List<String> tokens, int claims) {
        tokens.add("law");
        int a = random.nextInt(claims);
        int b = (a + 1 + random.nextInt(Math.max(1, claims - 1))) % claims;
        int kind = claims == 1 ? 0 : random.nextInt(3);
        if (kind == 0) {
            tokens.add("some");
            for (int k = 0; k <= random.nextInt(5) && k < 4; k++) {
                literal(tokens, random.nextInt(claims));
            }
            // Like ones and, now and then, a fifth.
            int more = random.nextInt(30) == 0 ? random.nextInt(7) : 0;
            for (int k = 0; k < more; k++) {
                literal(tokens, random.nextInt(Math.min(2, claims)));
            }
        } else {
            tokens.add(kind == 1 ? "if" : "bars");
            literal(tokens, a);
            if (kind == 1) {
                tokens.add("then");
            }
            literal(tokens, b);
        }
        tokens.add(";");
    }

    private void literal(List<String> tokens, int claim) {
        if (random.nextBoolean()) {
            tokens.add("not");
        }
        tokens.add("" + claim);
    }

    private void spoil(List<String> tokens) {
        if (tokens.isEmpty()) {
            return;
        }
        int at = random.nextInt(tokens.size());
        String[] words = ("kitchen claim so not cost found owns law some if then bars known wants person knows ;"
                + " 0 1 8 9 99 100 101 00 007 99999999999999999999 00000000000000000000003 kitchens x").split(" ");
        String other = random.nextInt(8) == 0 ? BYTES[random.nextInt(BYTES.length)] : words[random.nextInt(words.length)];
        switch (random.nextInt(5)) {
            case 0 -> tokens.remove(at);
            case 1 -> tokens.add(at, other);
            case 2 -> tokens.subList(at, tokens.size()).clear();
            case 3 -> tokens.addAll(tokens.subList(at, tokens.size()).stream().limit(30).toList());
            default -> tokens.set(at, other);
        }
    }

    private String join(List<String> tokens) {
        StringBuilder text = new StringBuilder(random.nextInt(4) == 0 ? " \n" : "");
        for (int i = 0; i < tokens.size() && text.length() < 1560; i++) {
            text.append(tokens.get(i));
            boolean glued = i + 1 < tokens.size() && sameKind(tokens.get(i), tokens.get(i + 1));
            if (glued || random.nextInt(3) == 0) {
                text.append(random.nextInt(5) == 0 ? "\n" : " ");
            }
        }
        return text.toString();
    }

    private static boolean sameKind(String a, String b) {
        return a.matches(".*[a-z]") && b.matches("[a-z].*") || a.matches(".*[0-9]") && b.matches("[0-9].*");
    }
}
