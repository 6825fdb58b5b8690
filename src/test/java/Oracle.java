import java.math.BigInteger;
import java.util.ArrayList;
import java.util.Arrays;
import java.util.List;
import java.util.function.IntPredicate;

/**
 * A second LieKitchen for tests: the document's words, promise by promise, by trying all
 * stories and all sets. Slow, and free to use the whole library.
 */
final class Oracle {
    private static final int NONE = -1;

    private static final class Claim {
        boolean so;
        int cost;
        int found;
        int owns = NONE;
        boolean known;
        int wanted = NONE;

        Claim copy() {
            Claim c = new Claim();
            c.so = so;
            c.cost = cost;
            c.found = found;
            c.owns = owns;
            c.known = known;
            c.wanted = wanted;
            return c;
        }
    }

    /** Literals of which one at least has to be as said: c + 1 if so, -(c + 1) if not. */
    private static final class Law {
        final List<Integer> literals = new ArrayList<>();
    }

    private static final class Person {
        int cost;
        final List<Integer> knows = new ArrayList<>();
    }

    private static final class State {
        int lines;
        List<Claim> claims = new ArrayList<>();
        List<Law> laws = new ArrayList<>();
        List<Person> people = new ArrayList<>();
        List<int[]> said = new ArrayList<>();

        State copy() {
            State s = new State();
            s.lines = lines;
            claims.forEach(c -> s.claims.add(c.copy()));
            s.laws.addAll(laws);
            s.people.addAll(people);
            s.said.addAll(said);
            return s;
        }
    }

    private static final class Fault extends RuntimeException {
        private static final long serialVersionUID = 1L;
        final int what;
        final int place;

        Fault(int what, int place) {
            this.what = what;
            this.place = place;
        }
    }

    private final List<Byte> tape = new ArrayList<>();
    private State s = new State();
    private final State[] images = new State[3];
    private final long[][] rows = new long[4][];
    private final int[] widths = new int[4];
    private int fault = 0;
    private int place = NONE;

    // ---- reading

    private record Token(String text, int place) {
    }

    private final class Parser {
        final List<Token> tokens = new ArrayList<>();
        int at = 0;
        final State into = new State();

        Parser() {
            StringBuilder text = new StringBuilder();
            tape.forEach(b -> text.append((char) (b & 255)));
            java.util.regex.Matcher m = java.util.regex.Pattern
                    .compile("[a-z]+|[0-9]+|[^ \n]", java.util.regex.Pattern.DOTALL).matcher(text);
            while (m.find()) {
                tokens.add(new Token(m.group(), m.start()));
            }
            tokens.add(new Token("", text.length()));
        }

        Token peek() {
            return tokens.get(at);
        }

        boolean sees(String... words) {
            return Arrays.asList(words).contains(peek().text);
        }

        boolean seesNumber() {
            return peek().text.matches("[0-9]+");
        }

        String take(String... words) {
            if (!sees(words)) {
                throw new Fault(1, peek().place);
            }
            return tokens.get(at++).text;
        }

        int number(int limit, IntPredicate fits) {
            if (!seesNumber()) {
                throw new Fault(1, peek().place);
            }
            BigInteger n = new BigInteger(peek().text);
            if (n.compareTo(BigInteger.valueOf(limit)) > 0 || !fits.test(n.intValue())) {
                throw new Fault(2, peek().place);
            }
            at++;
            return n.intValue();
        }

        int aClaim(IntPredicate fits) {
            return number(into.claims.size() - 1, fits);
        }

        int literal(IntPredicate fits) {
            boolean not = sees("not");
            if (not) {
                at++;
            }
            int c = aClaim(fits);
            return not ? -(c + 1) : c + 1;
        }

        void room(int have, int limit) {
            if (have == limit) {
                throw new Fault(3, peek().place);
            }
        }

        State parse() {
            while (!sees("")) {
                if (into.lines == 0) {
                    take("kitchen");
                } else {
                    line();
                }
                take(";");
                into.lines++;
            }
            return into;
        }

        void line() {
            if (sees("claim")) {
                room(into.claims.size(), 9);
            } else if (sees("law")) {
                room(into.laws.size(), 16);
            } else if (sees("person")) {
                room(into.people.size(), 6);
            }
            switch (take("claim", "law", "known", "wants", "person")) {
                case "claim" -> claimLine();
                case "law" -> lawLine();
                case "known" -> into.claims.get(aClaim(c -> !into.claims.get(c).known)).known = true;
                case "wants" -> {
                    int l = literal(c -> true);
                    into.claims.get(Math.abs(l) - 1).wanted = l > 0 ? 1 : 0;
                }
                default -> personLine();
            }
        }

        void claimLine() {
            Claim c = new Claim();
            c.so = take("so", "not").equals("so");
            take("cost");
            c.cost = number(99, n -> true);
            take("found");
            c.found = number(100, n -> true);
            if (sees("owns")) {
                at++;
                c.owns = number(99, n -> true);
            }
            into.claims.add(c);
        }

        void lawLine() {
            Law law = new Law();
            switch (take("some", "if", "bars")) {
                case "some" -> {
                    do {
                        if (law.literals.size() == 4) {
                            if (seesNumber()) {
                                aClaim(c -> true);
                                at--;
                            }
                            throw new Fault(3, peek().place);
                        }
                        law.literals.add(literal(c -> true));
                    } while (seesNumber() || sees("not"));
                }
                case "if" -> {
                    int a = literal(c -> true);
                    take("then");
                    int b = literal(c -> c != Math.abs(a) - 1);
                    law.literals.addAll(List.of(-a, b));
                }
                default -> {
                    int a = literal(c -> true);
                    int b = literal(c -> c != Math.abs(a) - 1);
                    law.literals.addAll(List.of(-a, -b));
                }
            }
            into.laws.add(law);
        }

        void personLine() {
            Person p = new Person();
            take("cost");
            p.cost = number(99, n -> true);
            take("knows");
            do {
                p.knows.add(aClaim(c -> true));
            } while (seesNumber());
            into.people.add(p);
        }
    }

    int feed(int a, int b, int c, int d, int e) {
        if (tape.size() + 20 > 1600) {
            return NONE;
        }
        for (int n : new int[] {a, b, c, d, e}) {
            for (byte x : java.nio.ByteBuffer.allocate(4).putInt(n).array()) {
                tape.add(x);
            }
        }
        return tape.size();
    }

    int end(int n) {
        if (n < 0 || n > tape.size()) {
            return NONE;
        }
        tape.subList(n, tape.size()).clear();
        return n;
    }

    int kitchen() {
        fault = 0;
        place = NONE;
        try {
            s = new Parser().parse();
        } catch (Fault f) {
            fault = f.what;
            place = f.place;
            return -4;
        }
        tape.clear();
        return s.lines;
    }

    int fault(int what) {
        return what == 0 ? fault : what == 1 ? place : NONE;
    }

    // ---- what there is

    private boolean none() {
        return s.lines == 0;
    }

    private int n() {
        return s.claims.size();
    }

    private boolean noClaim(int c) {
        return c < 0 || c >= n();
    }

    private boolean noPerson(int p) {
        return p < 0 || p >= s.people.size();
    }

    private boolean noStory(int story) {
        return none() || story < 0 || story > (int) Math.pow(2, n()) - 1;
    }

    private static boolean has(int set, int i) {
        return (set / (1 << i)) % 2 == 1;
    }

    private int bits(IntPredicate which, int n) {
        int set = 0;
        for (int i = 0; i < n; i++) {
            if (which.test(i)) {
                set += 1 << i;
            }
        }
        return set;
    }

    int claim(int claim, int what) {
        if (noClaim(claim)) {
            return -2;
        }
        Claim c = s.claims.get(claim);
        return switch (what) {
            case 0 -> c.so ? 1 : 0;
            case 1 -> c.cost;
            case 2 -> c.found;
            case 3 -> c.owns;
            case 4 -> c.known ? 1 : 0;
            case 5 -> c.wanted;
            default -> -2;
        };
    }

    int law(int law, int what) {
        if (law < 0 || law >= s.laws.size() || what < 0 || what > 1) {
            return -2;
        }
        return bits(c -> s.laws.get(law).literals.contains(what == 0 ? c + 1 : -c - 1), 9);
    }

    int person(int person, int what) {
        if (noPerson(person) || what < 0 || what > 1) {
            return -2;
        }
        Person p = s.people.get(person);
        return what == 0 ? p.cost : bits(p.knows::contains, 9);
    }

    int truth() {
        return none() ? -2 : bits(c -> s.claims.get(c).so, n());
    }

    private boolean lawBroken(int law, int story) {
        return s.laws.get(law).literals.stream().noneMatch(l -> has(story, Math.abs(l) - 1) == l > 0);
    }

    int breaks(int story) {
        if (noStory(story)) {
            return -2;
        }
        for (int l = 0; l < s.laws.size(); l++) {
            if (lawBroken(l, story)) {
                return l;
            }
        }
        return NONE;
    }

    int broken(int story) {
        return noStory(story) ? -2 : Integer.bitCount(bits(l -> lawBroken(l, story), s.laws.size()));
    }

    private boolean isUntrue(int c, int story) {
        return has(story, c) != s.claims.get(c).so;
    }

    private boolean isSound(int story) {
        for (int c = 0; c < n(); c++) {
            if (s.claims.get(c).known && isUntrue(c, story)) {
                return false;
            }
        }
        return breaks(story) == NONE;
    }

    private boolean isAsWanted(int story) {
        for (int c = 0; c < n(); c++) {
            int w = s.claims.get(c).wanted;
            if (w != NONE && has(story, c) != (w == 1)) {
                return false;
            }
        }
        return true;
    }

    private boolean isHolding(int story) {
        return isSound(story) && isAsWanted(story);
    }

    private List<Integer> all(IntPredicate which) {
        List<Integer> list = new ArrayList<>();
        for (int story = 0; story < 1 << n(); story++) {
            if (which.test(story)) {
                list.add(story);
            }
        }
        return list;
    }

    private List<Integer> holding() {
        return all(this::isHolding);
    }

    int holds(int story) {
        return noStory(story) ? -2 : isHolding(story) ? 1 : 0;
    }

    int untrue(int story) {
        return noStory(story) ? -2 : bits(c -> isUntrue(c, story), n());
    }

    int costs(int story) {
        if (noStory(story)) {
            return -2;
        }
        int sum = 0;
        for (int c = 0; c < n(); c++) {
            sum += isUntrue(c, story) ? s.claims.get(c).cost : 0;
        }
        return sum;
    }

    int stories() {
        return none() ? -2 : holding().size();
    }

    int story(int i) {
        if (none()) {
            return -2;
        }
        return i < 0 || i >= holding().size() ? NONE : holding().get(i);
    }

    private int lieCount(int story) {
        return Integer.bitCount(untrue(story));
    }

    private int least(List<Integer> stories, java.util.function.IntUnaryOperator f) {
        return stories.stream().mapToInt(x -> f.applyAsInt(x)).min().orElse(NONE);
    }

    private int first(List<Integer> stories, java.util.function.IntUnaryOperator f) {
        int least = least(stories, f);
        return stories.stream().filter(x -> f.applyAsInt(x) == least).findFirst().orElse(NONE);
    }

    int fewest() {
        return none() ? -2 : least(holding(), this::lieCount);
    }

    int told() {
        return none() ? -2 : first(holding(), this::lieCount);
    }

    int cheap() {
        return none() ? -2 : least(holding(), this::costs);
    }

    int cheaply() {
        return none() ? -2 : first(holding(), this::costs);
    }

    // ---- sets

    /** The least of the smallest sets of claims that are such. */
    private int smallestSet(IntPredicate such) {
        return first(all(such), Integer::bitCount);
    }

    private static int sizeOf(int set) {
        return set < 0 ? set : Integer.bitCount(set);
    }

    int clash() {
        return sizeOf(clashed());
    }

    int clashed() {
        if (none()) {
            return -2;
        }
        List<Integer> sound = all(this::isSound);
        return smallestSet(set -> {
            for (int c = 0; c < n(); c++) {
                if (has(set, c) && s.claims.get(c).wanted == NONE) {
                    return false;
                }
            }
            return sound.stream().noneMatch(story -> {
                for (int c = 0; c < n(); c++) {
                    if (has(set, c) && has(story, c) != (s.claims.get(c).wanted == 1)) {
                        return false;
                    }
                }
                return true;
            });
        });
    }

    private List<Integer> soundLying(int claim) {
        return all(x -> isSound(x) && isUntrue(claim, x));
    }

    int lie(int claim) {
        return noClaim(claim) ? -2 : least(soundLying(claim), this::lieCount);
    }

    int spread(int claim) {
        return noClaim(claim) ? -2 : first(soundLying(claim), this::lieCount);
    }

    int needs(int claim) {
        if (noClaim(claim)) {
            return -2;
        }
        List<Integer> lying = soundLying(claim);
        return lying.isEmpty() ? 0
                : bits(c -> c != claim && lying.stream().allMatch(x -> isUntrue(c, x)), n());
    }

    /** Above, below, in lowest terms. */
    private BigInteger[] chance(int story, int days) {
        BigInteger unseen = BigInteger.ONE;
        BigInteger below = BigInteger.ONE;
        for (int c = 0; c < n(); c++) {
            if (isUntrue(c, story)) {
                unseen = unseen.multiply(BigInteger.valueOf(100 - s.claims.get(c).found).pow(days));
                below = below.multiply(BigInteger.valueOf(100).pow(days));
            }
        }
        return lowest(below.subtract(unseen), below);
    }

    private static BigInteger[] lowest(BigInteger above, BigInteger below) {
        BigInteger g = above.gcd(below);
        return new BigInteger[] {above.divide(g), below.divide(g)};
    }

    long risk(int story, int n, int what) {
        if (noStory(story) || n < 1 || what < 0 || what > 1) {
            return -2;
        }
        if ((long) lieCount(story) * n > 9) {
            return NONE;
        }
        return chance(story, n)[what].longValueExact();
    }

    int safest() {
        if (none()) {
            return -2;
        }
        int best = NONE;
        for (int x : holding()) {
            if (best == NONE || chance(x, 1)[0].multiply(chance(best, 1)[1])
                    .compareTo(chance(best, 1)[0].multiply(chance(x, 1)[1])) < 0) {
                best = x;
            }
        }
        return best;
    }

    // ---- owning

    /** The stories that hold once a set of claims is owned to. */
    private List<Integer> holdingOwned(int set) {
        State was = s;
        s = s.copy();
        for (int c = 0; c < n(); c++) {
            if (has(set, c)) {
                s.claims.get(c).known = true;
                s.claims.get(c).wanted = NONE;
            }
        }
        List<Integer> list = holding();
        s = was;
        return list;
    }

    private int priceOfOwning(int set) {
        int sum = 0;
        for (int c = 0; c < n(); c++) {
            if (has(set, c)) {
                if (s.claims.get(c).owns == NONE) {
                    return NONE;
                }
                sum += s.claims.get(c).owns;
            }
        }
        int cost = least(holdingOwned(set), this::costs);
        return cost == NONE ? NONE : sum + cost;
    }

    int own(int claim) {
        return noClaim(claim) ? -2 : priceOfOwning(1 << claim);
    }

    int owning() {
        if (none()) {
            return -2;
        }
        int best = NONE;
        for (int c = 0; c < n(); c++) {
            if (own(c) != NONE && (best == NONE || own(c) < own(best))) {
                best = c;
            }
        }
        return best != NONE && (cheap() == NONE || own(best) < cheap()) ? best : NONE;
    }

    int spares(int claim) {
        if (noClaim(claim)) {
            return -200;
        }
        int then = least(holdingOwned(1 << claim), this::lieCount);
        if (fewest() == NONE || then == NONE || s.claims.get(claim).owns == NONE) {
            return -100;
        }
        return fewest() - then;
    }

    int confess() {
        return none() ? -2 : confessed() == NONE ? NONE : priceOfOwning(confessed());
    }

    int confessed() {
        if (none()) {
            return -2;
        }
        return first(all(set -> priceOfOwning(set) != NONE), this::priceOfOwning);
    }

    // ---- people who know, what catches

    private List<Integer> remaining() {
        return all(x -> isHolding(x) && s.said.stream().allMatch(w -> has(x, w[0]) == (w[1] == 1)));
    }

    int apart(int person, int other) {
        if (noPerson(person) || noPerson(other) || person == other) {
            return -2;
        }
        return bits(c -> s.people.get(person).knows.contains(c) && s.people.get(other).knows.contains(c)
                && remaining().stream().anyMatch(x -> has(x, c))
                && remaining().stream().anyMatch(x -> !has(x, c)), n());
    }

    int trusts(int person) {
        if (noPerson(person)) {
            return -2;
        }
        return (int) remaining().stream()
                .filter(x -> s.people.get(person).knows.stream().noneMatch(c -> isUntrue(c, x))).count();
    }

    private int holdingKnown(int set) {
        return (int) holding().stream().filter(x -> (untrue(x) & set) == 0).count();
    }

    int catches() {
        return sizeOf(caught());
    }

    int caught() {
        return none() ? -2 : smallestSet(set -> holdingKnown(set) == 0);
    }

    int knowing(int set) {
        return noStory(set) ? -2 : holdingKnown(set);
    }

    private int inAll(List<Integer> stories, int what) {
        return stories.isEmpty() ? 0 : bits(c -> stories.stream().allMatch(x -> has(x, c) == (what == 0)), n());
    }

    int fixed(int what) {
        return none() || what < 0 || what > 1 ? -2 : inAll(holding(), what);
    }

    // ---- answers

    private int refusal(int slot) {
        if (slot < 0 || slot > 3 || none()) {
            return -2;
        }
        if (rows[slot] == null) {
            return -6;
        }
        if (rows[slot].length % 2 == 1) {
            return -2;
        }
        for (int i = 0; i < rows[slot].length; i += 2) {
            long c = rows[slot][i];
            long v = rows[slot][i + 1];
            if (c < 0 || c >= n() || v < 0 || v > 1) {
                return -2;
            }
        }
        return 0;
    }

    private List<Integer> fitting(int slot, int answers) {
        return all(x -> {
            for (int i = 0; i < answers; i++) {
                if (has(x, (int) rows[slot][2 * i]) != (rows[slot][2 * i + 1] == 1)) {
                    return false;
                }
            }
            return isSound(x);
        });
    }

    private List<Integer> fitting(int slot) {
        return fitting(slot, rows[slot].length / 2);
    }

    int judge(int slot) {
        if (refusal(slot) != 0) {
            return refusal(slot);
        }
        int i = 0;
        while (i < rows[slot].length / 2 && !fitting(slot, i + 1).isEmpty()) {
            i++;
        }
        return i;
    }

    int fits(int slot) {
        return refusal(slot) != 0 ? refusal(slot) : fitting(slot).size();
    }

    int must(int slot, int what) {
        if (what < 0 || what > 1) {
            return -2;
        }
        return refusal(slot) != 0 ? refusal(slot) : inAll(fitting(slot), what);
    }

    int least(int slot) {
        return refusal(slot) != 0 ? refusal(slot) : least(fitting(slot), this::lieCount);
    }

    int lies(int slot) {
        if (refusal(slot) != 0) {
            return refusal(slot);
        }
        int fewest = least(slot);
        return fitting(slot).stream().filter(x -> lieCount(x) == fewest).mapToInt(this::untrue).min().orElse(NONE);
    }

    private int worst(int slot, int c) {
        int so = (int) fitting(slot).stream().filter(x -> has(x, c)).count();
        return Math.max(so, fitting(slot).size() - so);
    }

    int ask(int slot) {
        if (refusal(slot) != 0) {
            return refusal(slot);
        }
        int best = NONE;
        for (int c = 0; c < n(); c++) {
            if (worst(slot, c) < fitting(slot).size() && (best == NONE || worst(slot, c) < worst(slot, best))) {
                best = c;
            }
        }
        return best;
    }

    int leaves(int slot) {
        if (refusal(slot) != 0) {
            return refusal(slot);
        }
        return ask(slot) == NONE ? fitting(slot).size() : worst(slot, ask(slot));
    }

    int likely(int slot, int what) {
        if (what < 0 || what > 1) {
            return -2;
        }
        if (refusal(slot) != 0) {
            return refusal(slot);
        }
        List<Integer> list = fitting(slot);
        long good = list.stream().filter(this::isAsWanted).count();
        return list.isEmpty() ? NONE
                : lowest(BigInteger.valueOf(good), BigInteger.valueOf(list.size()))[what].intValueExact();
    }

    // ---- saying

    int say(int claim, int value) {
        if (noClaim(claim) || value < 0 || value > 1) {
            return -2;
        }
        if (s.said.stream().anyMatch(w -> w[0] == claim)) {
            return -5;
        }
        s.said.add(new int[] {claim, value});
        if (remaining().isEmpty()) {
            s.said.remove(s.said.size() - 1);
            return -5;
        }
        return remaining().size();
    }

    int unsay() {
        if (none()) {
            return -2;
        }
        if (s.said.isEmpty()) {
            return -5;
        }
        s.said.remove(s.said.size() - 1);
        return s.said.size();
    }

    int anew() {
        if (none()) {
            return -2;
        }
        int had = s.said.size();
        s.said.clear();
        return had;
    }

    int said(int i) {
        if (none()) {
            return -2;
        }
        return i < 0 || i >= s.said.size() ? NONE : 2 * s.said.get(i)[0] + s.said.get(i)[1];
    }

    int may(int claim) {
        if (noClaim(claim)) {
            return -2;
        }
        for (int[] w : s.said) {
            if (w[0] == claim) {
                return w[1] == 1 ? 2 : 1;
            }
        }
        boolean so = remaining().stream().anyMatch(x -> has(x, claim));
        boolean not = remaining().stream().anyMatch(x -> !has(x, claim));
        return (so ? 2 : 0) + (not ? 1 : 0);
    }

    int left() {
        return none() ? -2 : remaining().size();
    }

    int forced() {
        return none() ? -2
                : bits(c -> s.said.stream().noneMatch(w -> w[0] == c) && (may(c) == 1 || may(c) == 2), n());
    }

    int lied() {
        return none() ? -2
                : bits(c -> s.said.stream().anyMatch(w -> w[0] == c && (w[1] == 1) != s.claims.get(c).so), n());
    }

    int still() {
        return none() ? -2 : least(remaining(), this::lieCount);
    }

    // ---- witnesses

    int witnesses(int story) {
        return noStory(story) ? -2
                : bits(p -> s.people.get(p).knows.stream().anyMatch(c -> isUntrue(c, story)), s.people.size());
    }

    private int company(int story) {
        int sum = costs(story);
        for (int p = 0; p < s.people.size(); p++) {
            sum += has(witnesses(story), p) ? s.people.get(p).cost : 0;
        }
        return sum;
    }

    int mates() {
        return none() ? -2 : least(holding(), this::company);
    }

    int mated() {
        return none() ? -2 : first(holding(), this::company);
    }

    int quiet(int set) {
        if (none() || set < 0 || set >= 1 << s.people.size()) {
            return -2;
        }
        return least(all(x -> isHolding(x) && (witnesses(x) | set) == set), this::lieCount);
    }

    int few() {
        return none() ? -2 : least(holding(), x -> Integer.bitCount(witnesses(x)));
    }

    int whom() {
        if (none()) {
            return -2;
        }
        int few = few();
        return holding().stream().mapToInt(this::witnesses).filter(w -> Integer.bitCount(w) == few).min().orElse(NONE);
    }

    int slips(int person) {
        if (noPerson(person)) {
            return -2;
        }
        return mated() == NONE ? NONE
                : Integer.bitCount(bits(c -> s.people.get(person).knows.contains(c) && isUntrue(c, mated()), n()));
    }

    // ---- naive, evenings

    private final List<Integer> changes = new ArrayList<>();

    private int mend() {
        changes.clear();
        int story = bits(c -> s.claims.get(c).wanted == NONE ? s.claims.get(c).so : s.claims.get(c).wanted == 1, n());
        while (breaks(story) != NONE) {
            Law law = s.laws.get(breaks(story));
            int next = law.literals.stream().map(l -> Math.abs(l) - 1).sorted()
                    .filter(c -> !s.claims.get(c).known && s.claims.get(c).wanted == NONE && !changes.contains(c))
                    .findFirst().orElse(NONE);
            if (next == NONE) {
                break;
            }
            changes.add(next);
            story += has(story, next) ? -(1 << next) : 1 << next;
        }
        return story;
    }

    int naive(int what) {
        if (none() || what < 0 || what > 2) {
            return -2;
        }
        int story = mend();
        return what == 0 ? changes.size() : what == 1 ? story : holds(story);
    }

    int change(int i) {
        if (none()) {
            return -2;
        }
        mend();
        return i < 0 || i >= changes.size() ? NONE : changes.get(i);
    }

    /** Day and claim of each that comes out. */
    private List<int[]> evenings(long seed, int story, int days) {
        List<int[]> out = new ArrayList<>();
        BigInteger x = BigInteger.valueOf(seed);
        for (int day = 0; day < days; day++) {
            for (int c = 0; c < n(); c++) {
                int claim = c;
                if (isUntrue(c, story) && out.stream().noneMatch(o -> o[1] == claim)) {
                    x = x.multiply(BigInteger.valueOf(1103515245)).add(BigInteger.valueOf(12345))
                            .mod(BigInteger.valueOf(2147483648L));
                    if (x.intValue() / 65536 % 100 < s.claims.get(c).found) {
                        out.add(new int[] {day, c});
                    }
                }
            }
        }
        return out;
    }

    private boolean noEvenings(int seed, int story, int n) {
        return noStory(story) || seed < 0 || seed > 2_000_000_000 || n < 1 || n > 60;
    }

    int drawn(int seed, int story, int n, int what) {
        if (noEvenings(seed, story, n) || what < 0 || what > 2) {
            return -2;
        }
        List<int[]> out = evenings(seed, story, n);
        return what == 0 ? out.size() : out.isEmpty() ? NONE : out.get(0)[what - 1];
    }

    int luck(int seed, int m, int story, int n) {
        if (noEvenings(seed, story, n) || m < 1 || m > 20) {
            return -2;
        }
        int lucky = 0;
        for (long k = seed; k < (long) seed + m; k++) {
            lucky += evenings(k, story, n).isEmpty() ? 1 : 0;
        }
        return lucky;
    }

    // ---- changes, counts, images, slots

    int learn(int claim, int is) {
        if (noClaim(claim) || is < 0 || is > 1) {
            return -2;
        }
        if (!s.said.isEmpty()) {
            return -5;
        }
        int was = claim(claim, 4);
        s.claims.get(claim).known = is == 1;
        return was;
    }

    int wish(int claim, int value) {
        if (noClaim(claim) || value < NONE || value > 1) {
            return -2;
        }
        if (!s.said.isEmpty()) {
            return -5;
        }
        int was = claim(claim, 5);
        s.claims.get(claim).wanted = value;
        return was;
    }

    int price(int claim, int what, int n) {
        if (noClaim(claim) || what < 1 || what > 3 || n > (what == 2 ? 100 : 99) || n < (what == 3 ? NONE : 0)) {
            return -2;
        }
        int was = claim(claim, what);
        Claim c = s.claims.get(claim);
        switch (what) {
            case 1 -> c.cost = n;
            case 2 -> c.found = n;
            default -> c.owns = n;
        }
        return was;
    }

    int count(int what) {
        return switch (what) {
            case 0 -> n();
            case 1 -> s.laws.size();
            case 2 -> s.people.size();
            case 3 -> (int) s.claims.stream().filter(c -> c.known).count();
            case 4 -> (int) s.claims.stream().filter(c -> c.wanted != NONE).count();
            case 5 -> s.lines;
            case 6 -> tape.size();
            case 7 -> s.said.size();
            case 8 -> (int) Arrays.stream(rows).filter(r -> r != null).count();
            default -> NONE;
        };
    }

    int keep(int k) {
        if (k < 0 || k > 2) {
            return -2;
        }
        images[k] = s.copy();
        return 0;
    }

    int back(int k) {
        if (k < 0 || k > 2) {
            return -2;
        }
        if (images[k] == null) {
            return -6;
        }
        s = images[k].copy();
        return 0;
    }

    int row(int slot, int width, int n) {
        if (slot < 0 || slot > 3 || width < 0 || width > 3 || n > 60) {
            return -2;
        }
        if (n < 0) {
            return -3;
        }
        rows[slot] = new long[n];
        widths[slot] = width;
        return 0;
    }

    int write(int slot, int i, long v) {
        if (slot < 0 || slot > 3) {
            return -2;
        }
        if (rows[slot] == null) {
            return -6;
        }
        if (i < 0 || i >= rows[slot].length) {
            return -7;
        }
        int bits = 8 << widths[slot];
        rows[slot][i] = v << 64 - bits >> 64 - bits;
        return 0;
    }

    int paste(int slot, int i, int to, int k, int n) {
        if (slot < 0 || slot > 3 || to < 0 || to > 3) {
            return -2;
        }
        if (rows[slot] == null || rows[to] == null) {
            return -6;
        }
        if (widths[slot] != widths[to]) {
            return -8;
        }
        if (i < 0 || k < 0 || n < 0 || (long) i + n > rows[slot].length || (long) k + n > rows[to].length) {
            return -7;
        }
        long[] was = rows[slot].clone();
        for (int j = 0; j < n; j++) {
            rows[to][k + j] = was[i + j];
        }
        return 0;
    }
}
