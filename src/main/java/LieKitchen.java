import java.util.Arrays;

/**
 * One lie needs another: claims that are so or not, laws among them, and the stories that hold.
 *
 * Every set (of claims, of people) and every story is an int of bits. Whatever is asked of
 * stories goes through one Sieve, which the private methods sound(), holding(), remaining(),
 * owned() and answered() set; it is set anew by each of them, so only one is in use at a time.
 */
public final class LieKitchen {
    public static final int NONE = -1;

    private static final int ABSENT = -2;
    private static final int NEGATIVE = -3;
    private static final int FAULTY = -4;
    private static final int REFUSED = -5;
    private static final int NOTHING = -6;
    private static final int OUTSIDE = -7;
    private static final int UNLIKE = -8;
    private static final int SPARES_UNKNOWN = -100;
    private static final int SPARES_ABSENT = -200;

    private static final int TAPE_LIMIT = 1600;
    private static final int FEED_BYTES = 20;
    private static final int CLAIM_LIMIT = 9;
    private static final int LAW_LIMIT = 16;
    private static final int PEOPLE_LIMIT = 6;
    private static final int STORY_LIMIT = 1 << CLAIM_LIMIT;
    private static final int LITERAL_LIMIT = 4;
    private static final int COST_LIMIT = 99;
    private static final int FOUND_LIMIT = 100;
    private static final int SLOT_COUNT = 4;
    private static final int ROW_LIMIT = 60;
    private static final int IMAGE_COUNT = 3;
    private static final int RISK_LIMIT = 9;
    private static final int SEED_LIMIT = 2000000000;
    private static final int DAY_LIMIT = 60;
    private static final int LUCK_LIMIT = 20;

    // How Kitchen.rankOf ranks stories.
    private static final int BY_UNTRUTHS = 0;
    private static final int BY_COST = 1;
    private static final int BY_COMPANY = 2;
    private static final int BY_WITNESSES = 3;
    private static final int BY_LIES = 4;

    private final Tape tape;
    private final Kitchen now;
    private final Kitchen fresh;
    private final Reader reader;
    private final Sieve sieve;
    private final Hitter hitter;
    private final Mender mender;
    private final Evening evening;
    private final Kitchen[] images;
    private final Slot[] slots;

    /** Promise 1. */
    public LieKitchen() {
        tape = new Tape();
        now = new Kitchen();
        fresh = new Kitchen();
        reader = new Reader(tape, fresh);
        sieve = new Sieve(now);
        hitter = new Hitter();
        mender = new Mender();
        evening = new Evening();
        images = new Kitchen[IMAGE_COUNT];
        slots = new Slot[SLOT_COUNT];
        for (int i = 0; i < SLOT_COUNT; i++) {
            slots[i] = new Slot();
        }
    }

    // ---- the tape and the kitchen that it tells: promises 2 to 8

    public int feed(int a, int b, int c, int d, int e) {
        if (tape.length + FEED_BYTES > TAPE_LIMIT) {
            return NONE;
        }
        tape.append(a);
        tape.append(b);
        tape.append(c);
        tape.append(d);
        tape.append(e);
        return tape.length;
    }

    public int end(int n) {
        if (n < 0 || n > tape.length) {
            return NONE;
        }
        tape.length = n;
        return n;
    }

    public int kitchen() {
        reader.begin();
        for (int i = 0; i < TAPE_LIMIT && reader.goesOn(); i++) {
            reader.readLine();
        }
        if (reader.fault != 0) {
            return FAULTY;
        }
        fresh.findLawful();
        now.copyFrom(fresh);
        tape.length = 0;
        return now.lines;
    }

    public int fault(int what) {
        if (what == 0) {
            return reader.fault;
        }
        return what == 1 ? reader.place : NONE;
    }

    public int claim(int claim, int what) {
        if (noClaim(claim)) {
            return ABSENT;
        }
        switch (what) {
            case 0:
                return now.truth >> claim & 1;
            case 1:
                return now.cost[claim];
            case 2:
                return now.found[claim];
            case 3:
                return now.owns[claim];
            case 4:
                return now.known >> claim & 1;
            case 5:
                return wishFor(claim);
            default:
                return ABSENT;
        }
    }

    public int law(int law, int what) {
        if (law < 0 || law >= now.laws || notTwofold(what)) {
            return ABSENT;
        }
        return what == 0 ? now.lawSo[law] : now.lawNot[law];
    }

    public int person(int person, int what) {
        if (noPerson(person) || notTwofold(what)) {
            return ABSENT;
        }
        return what == 0 ? now.fee[person] : now.knows[person];
    }

    // ---- a story by itself: promises 9 to 14

    public int truth() {
        return noKitchen() ? ABSENT : now.truth;
    }

    public int breaks(int story) {
        return noStory(story) ? ABSENT : now.firstBroken(story);
    }

    public int broken(int story) {
        return noStory(story) ? ABSENT : now.countBroken(story);
    }

    public int holds(int story) {
        if (noStory(story)) {
            return ABSENT;
        }
        return holding().passes(story) ? 1 : 0;
    }

    public int untrue(int story) {
        return noStory(story) ? ABSENT : story ^ now.truth;
    }

    public int costs(int story) {
        return noStory(story) ? ABSENT : now.costOf(story);
    }

    // ---- the stories that hold: promises 15 to 20

    public int stories() {
        return noKitchen() ? ABSENT : holding().size();
    }

    public int story(int i) {
        return noKitchen() ? ABSENT : holding().nth(i);
    }

    public int fewest() {
        return amountOf(bestHolding(BY_UNTRUTHS));
    }

    public int told() {
        return setOf(bestHolding(BY_UNTRUTHS));
    }

    public int cheap() {
        return amountOf(bestHolding(BY_COST));
    }

    public int cheaply() {
        return setOf(bestHolding(BY_COST));
    }

    // ---- wishes that clash, what a lie needs, risk: promises 21 to 26

    public int clash() {
        return amountOf(rankedClash());
    }

    public int clashed() {
        return setOf(rankedClash());
    }

    public int lie(int claim) {
        return amountOf(rankedLie(claim));
    }

    public int needs(int claim) {
        if (noClaim(claim)) {
            return ABSENT;
        }
        Sieve lying = lying(claim);
        int untrueInAll = (lying.allSo() & ~now.truth) | (lying.allNot() & now.truth);
        return untrueInAll & ~(1 << claim);
    }

    public long risk(int story, int n, int what) {
        if (noStory(story) || n < 1 || notTwofold(what)) {
            return ABSENT;
        }
        int lies = story ^ now.truth;
        if ((long) Integer.bitCount(lies) * n > RISK_LIMIT) {
            return NONE;
        }
        long unseen = 1;
        long all = 1;
        for (int c = 0; c < now.claims; c++) {
            for (int day = 0; day < n && (lies >> c & 1) == 1; day++) {
                unseen *= FOUND_LIMIT - now.found[c];
                all *= FOUND_LIMIT;
            }
        }
        return inLowestTerms(all - unseen, all, what);
    }

    public int safest() {
        return noKitchen() ? ABSENT : holding().leastRisky();
    }

    // ---- owning to claims: promises 27 to 31

    public int own(int claim) {
        if (noClaim(claim)) {
            return ABSENT;
        }
        if (now.owns[claim] == NONE) {
            return NONE;
        }
        int rank = owned(claim).best(BY_COST);
        return rank == NONE ? NONE : now.owns[claim] + amountOf(rank);
    }

    public int owning() {
        if (noKitchen()) {
            return ABSENT;
        }
        int best = NONE;
        int least = cheap();
        for (int c = 0; c < now.claims; c++) {
            int price = own(c);
            if (price != NONE && (least == NONE || price < least)) {
                best = c;
                least = price;
            }
        }
        return best;
    }

    public int spares(int claim) {
        if (noClaim(claim)) {
            return SPARES_ABSENT;
        }
        int before = fewest();
        if (before == NONE || now.owns[claim] == NONE) {
            return SPARES_UNKNOWN;
        }
        int after = amountOf(owned(claim).best(BY_UNTRUTHS));
        return after == NONE ? SPARES_UNKNOWN : before - after;
    }

    public int confess() {
        return amountOf(rankedConfession());
    }

    public int confessed() {
        return setOf(rankedConfession());
    }

    // ---- what a lie spreads to, what catches it: promises 32 to 38

    public int spread(int claim) {
        return setOf(rankedLie(claim));
    }

    public int apart(int person, int other) {
        if (noPerson(person) || noPerson(other) || person == other) {
            return ABSENT;
        }
        Sieve possible = remaining();
        return now.knows[person] & now.knows[other] & possible.someSo() & possible.someNot();
    }

    public int trusts(int person) {
        if (noPerson(person)) {
            return ABSENT;
        }
        return remaining().demand(now.knows[person], now.truth).size();
    }

    public int catches() {
        return amountOf(rankedCatch());
    }

    public int caught() {
        return setOf(rankedCatch());
    }

    public int knowing(int set) {
        if (noStory(set)) {
            return ABSENT;
        }
        return holding().demand(set, now.truth).size();
    }

    public int fixed(int what) {
        if (noKitchen() || notTwofold(what)) {
            return ABSENT;
        }
        return what == 0 ? holding().allSo() : holding().allNot();
    }

    // ---- answers in a slot's row: promises 39 to 46

    public int judge(int slot) {
        int refusal = answersRefusal(slot);
        if (refusal != 0) {
            return refusal;
        }
        Sieve fitting = sound();
        int answers = slots[slot].length / 2;
        for (int i = 0; i < answers; i++) {
            demandAnswer(fitting, slots[slot], i);
            if (fitting.nth(0) == NONE) {
                return i;
            }
        }
        return answers;
    }

    public int fits(int slot) {
        int refusal = answersRefusal(slot);
        return refusal != 0 ? refusal : answered(slot).size();
    }

    public int must(int slot, int what) {
        int refusal = notTwofold(what) ? ABSENT : answersRefusal(slot);
        if (refusal != 0) {
            return refusal;
        }
        return what == 0 ? answered(slot).allSo() : answered(slot).allNot();
    }

    public int least(int slot) {
        return amountOf(rankedAnswer(slot));
    }

    public int lies(int slot) {
        return setOf(rankedAnswer(slot));
    }

    public int ask(int slot) {
        int refusal = answersRefusal(slot);
        return refusal != 0 ? refusal : bestQuestion(answered(slot));
    }

    public int leaves(int slot) {
        int refusal = answersRefusal(slot);
        if (refusal != 0) {
            return refusal;
        }
        Sieve fitting = answered(slot);
        int question = bestQuestion(fitting);
        return question == NONE ? fitting.size() : fitting.worstOf(question);
    }

    public int likely(int slot, int what) {
        int refusal = notTwofold(what) ? ABSENT : answersRefusal(slot);
        if (refusal != 0) {
            return refusal;
        }
        Sieve fitting = answered(slot);
        int all = fitting.size();
        if (all == 0) {
            return NONE;
        }
        int asWanted = fitting.demand(now.wanted, now.wishes).size();
        return (int) inLowestTerms(asWanted, all, what);
    }

    // ---- said one by one: promises 47 to 55

    public int say(int claim, int value) {
        if (noClaim(claim) || notTwofold(value)) {
            return ABSENT;
        }
        if ((now.talk.mask >> claim & 1) == 1) {
            return REFUSED;
        }
        int size = remaining().demand(1 << claim, value << claim).size();
        if (size == 0) {
            return REFUSED;
        }
        now.talk.add(claim, value);
        return size;
    }

    public int unsay() {
        if (noKitchen()) {
            return ABSENT;
        }
        if (now.talk.length == 0) {
            return REFUSED;
        }
        now.talk.drop();
        return now.talk.length;
    }

    public int anew() {
        if (noKitchen()) {
            return ABSENT;
        }
        int length = now.talk.length;
        now.talk.clear();
        return length;
    }

    public int said(int i) {
        if (noKitchen()) {
            return ABSENT;
        }
        return i < 0 || i >= now.talk.length ? NONE : now.talk.words[i];
    }

    public int may(int claim) {
        if (noClaim(claim)) {
            return ABSENT;
        }
        Sieve possible = remaining();
        return (possible.someNot() >> claim & 1) | (possible.someSo() >> claim & 1) << 1;
    }

    public int left() {
        return noKitchen() ? ABSENT : remaining().size();
    }

    public int forced() {
        if (noKitchen()) {
            return ABSENT;
        }
        Sieve possible = remaining();
        return (possible.allSo() | possible.allNot()) & ~now.talk.mask;
    }

    public int lied() {
        return noKitchen() ? ABSENT : (now.talk.values ^ now.truth) & now.talk.mask;
    }

    public int still() {
        return noKitchen() ? ABSENT : amountOf(remaining().best(BY_UNTRUTHS));
    }

    // ---- people: promises 56 to 62

    public int witnesses(int story) {
        return noStory(story) ? ABSENT : now.witnessesOf(story);
    }

    public int mates() {
        return amountOf(bestHolding(BY_COMPANY));
    }

    public int mated() {
        return setOf(bestHolding(BY_COMPANY));
    }

    public int quiet(int set) {
        if (noKitchen() || set < 0 || set >= 1 << now.people) {
            return ABSENT;
        }
        // Nobody outside the set is a witness just if all that they know is told as it is.
        int knownOutside = now.knownToAny(~set);
        return amountOf(holding().demand(knownOutside, now.truth).best(BY_UNTRUTHS));
    }

    public int few() {
        return amountOf(bestHolding(BY_WITNESSES));
    }

    public int whom() {
        return setOf(bestHolding(BY_WITNESSES));
    }

    public int slips(int person) {
        if (noPerson(person)) {
            return ABSENT;
        }
        int story = mated();
        return story == NONE ? NONE : Integer.bitCount((story ^ now.truth) & now.knows[person]);
    }

    // ---- the naive one, and evenings: promises 63 to 66

    public int naive(int what) {
        if (noKitchen() || what < 0 || what > 2) {
            return ABSENT;
        }
        mender.mend(now);
        if (what == 0) {
            return mender.length;
        }
        return what == 1 ? mender.story : holds(mender.story);
    }

    public int change(int i) {
        if (noKitchen()) {
            return ABSENT;
        }
        mender.mend(now);
        return i < 0 || i >= mender.length ? NONE : mender.changes[i];
    }

    public int drawn(int seed, int story, int n, int what) {
        if (noEvening(seed, story, n) || what < 0 || what > 2) {
            return ABSENT;
        }
        evening.pass(now, seed, story, n);
        if (what == 0) {
            return Integer.bitCount(evening.out);
        }
        return what == 1 ? evening.firstDay : evening.firstClaim;
    }

    public int luck(int seed, int m, int story, int n) {
        if (noEvening(seed, story, n) || m < 1 || m > LUCK_LIMIT) {
            return ABSENT;
        }
        int lucky = 0;
        for (int i = 0; i < m; i++) {
            evening.pass(now, seed + i, story, n);
            if (evening.out == 0) {
                lucky++;
            }
        }
        return lucky;
    }

    // ---- what changes a kitchen: promises 67 to 69

    public int learn(int claim, int is) {
        if (noClaim(claim) || notTwofold(is)) {
            return ABSENT;
        }
        if (now.talk.length > 0) {
            return REFUSED;
        }
        int was = now.known >> claim & 1;
        now.known = withBit(now.known, claim, is);
        return was;
    }

    public int wish(int claim, int value) {
        if (noClaim(claim) || (value != NONE && notTwofold(value))) {
            return ABSENT;
        }
        if (now.talk.length > 0) {
            return REFUSED;
        }
        int was = wishFor(claim);
        now.want(claim, value);
        return was;
    }

    public int price(int claim, int what, int n) {
        if (noClaim(claim) || what < 1 || what > 3) {
            return ABSENT;
        }
        int low = what == 3 ? NONE : 0;
        int high = what == 2 ? FOUND_LIMIT : COST_LIMIT;
        if (n < low || n > high) {
            return ABSENT;
        }
        int[] prices = what == 1 ? now.cost : what == 2 ? now.found : now.owns;
        int was = prices[claim];
        prices[claim] = n;
        return was;
    }

    // ---- counts, images, slots: promises 70 to 75

    public int count(int what) {
        switch (what) {
            case 0:
                return now.claims;
            case 1:
                return now.laws;
            case 2:
                return now.people;
            case 3:
                return Integer.bitCount(now.known);
            case 4:
                return Integer.bitCount(now.wanted);
            case 5:
                return now.lines;
            case 6:
                return tape.length;
            case 7:
                return now.talk.length;
            case 8:
                return countRows();
            default:
                return NONE;
        }
    }

    public int keep(int k) {
        if (k < 0 || k >= IMAGE_COUNT) {
            return ABSENT;
        }
        if (images[k] == null) {
            images[k] = new Kitchen();
        }
        images[k].copyFrom(now);
        return 0;
    }

    public int back(int k) {
        if (k < 0 || k >= IMAGE_COUNT) {
            return ABSENT;
        }
        if (images[k] == null) {
            return NOTHING;
        }
        now.copyFrom(images[k]);
        return 0;
    }

    public int row(int slot, int width, int n) {
        if (noSlot(slot) || width < 0 || width > 3 || n > ROW_LIMIT) {
            return ABSENT;
        }
        if (n < 0) {
            return NEGATIVE;
        }
        slots[slot].lay(width, n);
        return 0;
    }

    public int write(int slot, int i, long v) {
        if (noSlot(slot)) {
            return ABSENT;
        }
        Slot target = slots[slot];
        if (target.isBare()) {
            return NOTHING;
        }
        if (i < 0 || i >= target.length) {
            return OUTSIDE;
        }
        target.put(i, v);
        return 0;
    }

    public int paste(int slot, int i, int to, int k, int n) {
        if (noSlot(slot) || noSlot(to)) {
            return ABSENT;
        }
        Slot source = slots[slot];
        Slot target = slots[to];
        if (source.isBare() || target.isBare()) {
            return NOTHING;
        }
        if (source.width != target.width) {
            return UNLIKE;
        }
        if (source.lacks(i, n) || target.lacks(k, n)) {
            return OUTSIDE;
        }
        System.arraycopy(source.numbers, i, target.numbers, k, n);
        return 0;
    }

    // ---- what there is not

    private boolean noKitchen() {
        return now.lines == 0;
    }

    private boolean noClaim(int claim) {
        return claim < 0 || claim >= now.claims;
    }

    private boolean noPerson(int person) {
        return person < 0 || person >= now.people;
    }

    /** A set of claims has the same bounds as a story. */
    private boolean noStory(int story) {
        return noKitchen() || story < 0 || story >= 1 << now.claims;
    }

    private boolean noEvening(int seed, int story, int days) {
        return noStory(story) || seed < 0 || seed > SEED_LIMIT || days < 1 || days > DAY_LIMIT;
    }

    private static boolean noSlot(int slot) {
        return slot < 0 || slot >= SLOT_COUNT;
    }

    private static boolean notTwofold(int value) {
        return value != 0 && value != 1;
    }

    // ---- ranks: an amount and, below it, a set or story, so that the least rank has the
    // ---- least amount and, of several, the least set; a negative answer stays as it is

    private static int rank(int amount, int set) {
        return amount * STORY_LIMIT + set;
    }

    private static int amountOf(int rank) {
        return rank < 0 ? rank : rank / STORY_LIMIT;
    }

    private static int setOf(int rank) {
        return rank < 0 ? rank : rank % STORY_LIMIT;
    }

    /** The lesser of two ranks, of which the first may be NONE. */
    private static int lesser(int best, int rank) {
        return best == NONE || rank < best ? rank : best;
    }

    private int bestHolding(int measure) {
        return noKitchen() ? ABSENT : holding().best(measure);
    }

    private int rankedLie(int claim) {
        return noClaim(claim) ? ABSENT : lying(claim).best(BY_UNTRUTHS);
    }

    private int rankedAnswer(int slot) {
        int refusal = answersRefusal(slot);
        return refusal != 0 ? refusal : answered(slot).best(BY_LIES);
    }

    /** Wishes clash if each sound story goes against one of them at least. */
    private int rankedClash() {
        if (noKitchen()) {
            return ABSENT;
        }
        Sieve sound = sound();
        int size = 1 << now.claims;
        hitter.clear();
        for (int s = 0; s < size; s++) {
            if (sound.passes(s)) {
                hitter.mark(now.missedBy(s));
            }
        }
        return hitter.smallest(size, now.wanted);
    }

    /** Claims that are known catch all if each story that holds has one of them untrue. */
    private int rankedCatch() {
        if (noKitchen()) {
            return ABSENT;
        }
        Sieve holding = holding();
        int size = 1 << now.claims;
        hitter.clear();
        for (int s = 0; s < size; s++) {
            if (holding.passes(s)) {
                hitter.mark(s ^ now.truth);
            }
        }
        return hitter.smallest(size, size - 1);
    }

    /**
     * For a sound story the least set to own to is the wishes that it misses: those must be
     * owned to, and any more only add to price and set. So the best set is among these.
     */
    private int rankedConfession() {
        if (noKitchen()) {
            return ABSENT;
        }
        Sieve sound = sound();
        int barred = now.cannotBeOwned();
        int best = NONE;
        for (int s = 0; s < 1 << now.claims; s++) {
            int missed = now.missedBy(s);
            // What is owned to is known then, so it has to be told as it is.
            boolean canOwn = (missed & (barred | (s ^ now.truth))) == 0;
            if (canOwn && sound.passes(s)) {
                best = lesser(best, rank(now.costOf(s) + now.ownsOf(missed), missed));
            }
        }
        return best;
    }

    // ---- sieves

    private Sieve sound() {
        return sieve.open().demand(now.known, now.truth);
    }

    private Sieve holding() {
        return sound().demand(now.wanted, now.wishes);
    }

    private Sieve remaining() {
        return holding().demand(now.talk.mask, now.talk.values);
    }

    private Sieve lying(int claim) {
        return sound().demand(1 << claim, ~now.truth);
    }

    private Sieve owned(int claim) {
        int bit = 1 << claim;
        return sound().demand(bit, now.truth).demand(now.wanted & ~bit, now.wishes);
    }

    private Sieve answered(int slot) {
        Sieve fitting = sound();
        int answers = slots[slot].length / 2;
        for (int i = 0; i < answers; i++) {
            demandAnswer(fitting, slots[slot], i);
        }
        return fitting;
    }

    private static void demandAnswer(Sieve fitting, Slot slot, int answer) {
        int claim = (int) slot.numberAt(2 * answer);
        int value = (int) slot.numberAt(2 * answer + 1);
        fitting.demand(1 << claim, value << claim);
    }

    /** 0 if the slot has a row of answers, else what refuses the call. */
    private int answersRefusal(int slot) {
        if (noSlot(slot) || noKitchen()) {
            return ABSENT;
        }
        Slot row = slots[slot];
        if (row.isBare()) {
            return NOTHING;
        }
        if (row.length % 2 != 0) {
            return ABSENT;
        }
        for (int i = 0; i < row.length; i++) {
            long bound = i % 2 == 0 ? now.claims : 2;
            if (row.numberAt(i) < 0 || row.numberAt(i) >= bound) {
                return ABSENT;
            }
        }
        return 0;
    }

    private int bestQuestion(Sieve fitting) {
        int best = NONE;
        int least = fitting.size();
        for (int c = 0; c < now.claims; c++) {
            int worst = fitting.worstOf(c);
            if (worst < least) {
                best = c;
                least = worst;
            }
        }
        return best;
    }

    // ---- small things

    private int wishFor(int claim) {
        return (now.wanted >> claim & 1) == 1 ? now.wishes >> claim & 1 : NONE;
    }

    private int countRows() {
        int rows = 0;
        for (int i = 0; i < SLOT_COUNT; i++) {
            if (!slots[i].isBare()) {
                rows++;
            }
        }
        return rows;
    }

    private static int withBit(int set, int bit, int value) {
        return (set & ~(1 << bit)) | value << bit;
    }

    /** What 0: the part above, 1: below. The part below is 1 at least. */
    private static long inLowestTerms(long above, long below, int what) {
        long divisor = Math.max(1, commonDivisor(above, below));
        return (what == 0 ? above : below) / divisor;
    }

    /** Euclid's way needs fewer than a hundred steps for any two longs. */
    private static long commonDivisor(long a, long b) {
        long x = a;
        long y = b;
        for (int i = 0; i < 100 && y != 0; i++) {
            long rest = x % y;
            x = y;
            y = rest;
        }
        return x;
    }

    /** The bytes that were fed and not yet made a kitchen. */
    private static final class Tape {
        private final byte[] bytes = new byte[TAPE_LIMIT];
        private int length = 0;

        /** Four bytes, the highest first. */
        private void append(int number) {
            if (length > TAPE_LIMIT - 4) {
                return;
            }
            for (int shift = 24; shift >= 0; shift -= 8) {
                bytes[length] = (byte) (number >>> shift);
                length++;
            }
        }

        /** NONE behind the end. */
        private int byteAt(int i) {
            return i >= 0 && i < length ? bytes[i] & 255 : NONE;
        }

        private boolean hasLetter(int i) {
            return i >= 0 && i < length && bytes[i] >= 'a' && bytes[i] <= 'z';
        }

        private boolean hasDigit(int i) {
            return i >= 0 && i < length && bytes[i] >= '0' && bytes[i] <= '9';
        }
    }

    /** What was said, in its order. */
    private static final class Talk {
        private final int[] words = new int[CLAIM_LIMIT];
        private int length = 0;
        private int mask = 0;
        private int values = 0;

        private void clear() {
            length = 0;
            mask = 0;
            values = 0;
        }

        private void copyFrom(Talk other) {
            System.arraycopy(other.words, 0, words, 0, CLAIM_LIMIT);
            length = other.length;
            mask = other.mask;
            values = other.values;
        }

        private void add(int claim, int value) {
            if (length >= CLAIM_LIMIT) {
                return;
            }
            words[length] = 2 * claim + value;
            length++;
            mask |= 1 << claim;
            values = withBit(values, claim, value);
        }

        private void drop() {
            if (length == 0) {
                return;
            }
            length--;
            int bit = 1 << words[length] / 2;
            mask &= ~bit;
            values &= ~bit;
        }
    }

    /** A kitchen with what was said in it; without lines there is none. */
    private static final class Kitchen {
        private int lines = 0;
        private int claims = 0;
        private int laws = 0;
        private int people = 0;
        private int truth = 0;
        private int known = 0;
        private int wanted = 0;
        private int wishes = 0;
        private final int[] cost = new int[CLAIM_LIMIT];
        private final int[] found = new int[CLAIM_LIMIT];
        private final int[] owns = new int[CLAIM_LIMIT];
        private final int[] lawSo = new int[LAW_LIMIT];
        private final int[] lawNot = new int[LAW_LIMIT];
        private final int[] fee = new int[PEOPLE_LIMIT];
        private final int[] knows = new int[PEOPLE_LIMIT];
        /** A bit a story. Laws never change in a kitchen, so this is found once. */
        private final long[] lawful = new long[STORY_LIMIT / 64];
        private final Talk talk = new Talk();

        private void clear() {
            lines = 0;
            claims = 0;
            laws = 0;
            people = 0;
            truth = 0;
            known = 0;
            wanted = 0;
            wishes = 0;
            talk.clear();
        }

        private void copyFrom(Kitchen other) {
            lines = other.lines;
            claims = other.claims;
            laws = other.laws;
            people = other.people;
            truth = other.truth;
            known = other.known;
            wanted = other.wanted;
            wishes = other.wishes;
            System.arraycopy(other.cost, 0, cost, 0, CLAIM_LIMIT);
            System.arraycopy(other.found, 0, found, 0, CLAIM_LIMIT);
            System.arraycopy(other.owns, 0, owns, 0, CLAIM_LIMIT);
            System.arraycopy(other.lawSo, 0, lawSo, 0, LAW_LIMIT);
            System.arraycopy(other.lawNot, 0, lawNot, 0, LAW_LIMIT);
            System.arraycopy(other.fee, 0, fee, 0, PEOPLE_LIMIT);
            System.arraycopy(other.knows, 0, knows, 0, PEOPLE_LIMIT);
            System.arraycopy(other.lawful, 0, lawful, 0, lawful.length);
            talk.copyFrom(other.talk);
        }

        private void addClaim(int is, int itsCost, int itsFound, int itsOwns) {
            if (claims >= CLAIM_LIMIT) {
                return;
            }
            truth = withBit(truth, claims, is);
            cost[claims] = itsCost;
            found[claims] = itsFound;
            owns[claims] = itsOwns;
            claims++;
        }

        private void addLaw(int so, int not) {
            if (laws >= LAW_LIMIT) {
                return;
            }
            lawSo[laws] = so;
            lawNot[laws] = not;
            laws++;
        }

        private void addPerson(int itsFee, int itsKnows) {
            if (people >= PEOPLE_LIMIT) {
                return;
            }
            fee[people] = itsFee;
            knows[people] = itsKnows;
            people++;
        }

        /** NONE: nothing is wanted any more. */
        private void want(int claim, int value) {
            wanted = withBit(wanted, claim, value == NONE ? 0 : 1);
            wishes = withBit(wishes, claim, value == 1 ? 1 : 0);
        }

        private void findLawful() {
            Arrays.fill(lawful, 0L);
            for (int s = 0; s < 1 << claims; s++) {
                if (firstBroken(s) == NONE) {
                    lawful[s >> 6] |= 1L << (s & 63);
                }
            }
        }

        private boolean isLawful(int story) {
            return story >= 0 && story < STORY_LIMIT && (lawful[story >> 6] >>> (story & 63) & 1) == 1;
        }

        private boolean isBroken(int law, int story) {
            return ((story & lawSo[law]) | (~story & lawNot[law])) == 0;
        }

        private int firstBroken(int story) {
            for (int i = 0; i < laws; i++) {
                if (isBroken(i, story)) {
                    return i;
                }
            }
            return NONE;
        }

        private int countBroken(int story) {
            int n = 0;
            for (int i = 0; i < laws; i++) {
                if (isBroken(i, story)) {
                    n++;
                }
            }
            return n;
        }

        private int costOf(int story) {
            int sum = 0;
            for (int c = 0; c < claims; c++) {
                sum += ((story ^ truth) >> c & 1) * cost[c];
            }
            return sum;
        }

        private int ownsOf(int set) {
            int sum = 0;
            for (int c = 0; c < claims; c++) {
                sum += (set >> c & 1) * owns[c];
            }
            return sum;
        }

        private int cannotBeOwned() {
            int set = 0;
            for (int c = 0; c < claims; c++) {
                set |= (owns[c] == NONE ? 1 : 0) << c;
            }
            return set;
        }

        /** Claims that the story has not as wanted. */
        private int missedBy(int story) {
            return (story ^ wishes) & wanted;
        }

        private int witnessesOf(int story) {
            int set = 0;
            for (int p = 0; p < people; p++) {
                set |= ((knows[p] & (story ^ truth)) != 0 ? 1 : 0) << p;
            }
            return set;
        }

        private int feesOf(int set) {
            int sum = 0;
            for (int p = 0; p < people; p++) {
                sum += (set >> p & 1) * fee[p];
            }
            return sum;
        }

        private int knownToAny(int set) {
            int union = 0;
            for (int p = 0; p < people; p++) {
                union |= (set >> p & 1) == 1 ? knows[p] : 0;
            }
            return union;
        }

        private int rankOf(int story, int measure) {
            int lies = story ^ truth;
            switch (measure) {
                case BY_UNTRUTHS:
                    return rank(Integer.bitCount(lies), story);
                case BY_COST:
                    return rank(costOf(story), story);
                case BY_COMPANY:
                    return rank(costOf(story) + feesOf(witnessesOf(story)), story);
                case BY_WITNESSES:
                    int witnesses = witnessesOf(story);
                    return rank(Integer.bitCount(witnesses), witnesses);
                default:
                    return rank(Integer.bitCount(lies), lies);
            }
        }

        /** How often, of 100 to the CLAIM_LIMIT, nothing comes out in a day. */
        private long safety(int story) {
            long product = 1;
            for (int c = 0; c < CLAIM_LIMIT; c++) {
                boolean lie = ((story ^ truth) >> c & 1) == 1;
                product *= lie ? FOUND_LIMIT - found[c] : FOUND_LIMIT;
            }
            return product;
        }
    }

    /** The stories of a kitchen that break no law and are at some claims as demanded. */
    private static final class Sieve {
        private final Kitchen kitchen;
        private int mask = 0;
        private int values = 0;
        /** Two demands were not alike: no story passes. */
        private boolean shut = false;

        private Sieve(Kitchen kitchen) {
            this.kitchen = kitchen;
        }

        private Sieve open() {
            mask = 0;
            values = 0;
            shut = false;
            return this;
        }

        private Sieve demand(int claims, int asThese) {
            shut |= (mask & claims & (values ^ asThese)) != 0;
            mask |= claims;
            values = (values & ~claims) | (asThese & claims);
            return this;
        }

        private boolean passes(int story) {
            return !shut && ((story ^ values) & mask) == 0 && kitchen.isLawful(story);
        }

        /** No story from here on passes. */
        private int bound() {
            return shut ? 0 : 1 << kitchen.claims;
        }

        private int size() {
            int n = 0;
            int bound = bound();
            for (int s = 0; s < bound; s++) {
                if (passes(s)) {
                    n++;
                }
            }
            return n;
        }

        private int nth(int i) {
            int n = 0;
            int bound = bound();
            for (int s = 0; s < bound; s++) {
                if (passes(s)) {
                    if (n == i) {
                        return s;
                    }
                    n++;
                }
            }
            return NONE;
        }

        /** Claims that are so in one story at least. */
        private int someSo() {
            int set = 0;
            int bound = bound();
            for (int s = 0; s < bound; s++) {
                if (passes(s)) {
                    set |= s;
                }
            }
            return set;
        }

        /** Claims that are not so in one story at least. */
        private int someNot() {
            int set = 0;
            int bound = bound();
            for (int s = 0; s < bound; s++) {
                if (passes(s)) {
                    set |= bound - 1 & ~s;
                }
            }
            return set;
        }

        /** 0 without any story, for then nothing is so in one. */
        private int allSo() {
            return someSo() & ~someNot();
        }

        private int allNot() {
            return someNot() & ~someSo();
        }

        private int countSo(int claim) {
            int n = 0;
            int bound = bound();
            for (int s = 0; s < bound; s++) {
                if ((s >> claim & 1) == 1 && passes(s)) {
                    n++;
                }
            }
            return n;
        }

        /** How many are left, at worst, once it is known whether the claim is so. */
        private int worstOf(int claim) {
            int so = countSo(claim);
            return Math.max(so, size() - so);
        }

        private int best(int measure) {
            int best = NONE;
            int bound = bound();
            for (int s = 0; s < bound; s++) {
                if (passes(s)) {
                    best = lesser(best, kitchen.rankOf(s, measure));
                }
            }
            return best;
        }

        private int leastRisky() {
            int best = NONE;
            long most = NONE;
            int bound = bound();
            for (int s = 0; s < bound; s++) {
                if (passes(s) && kitchen.safety(s) > most) {
                    best = s;
                    most = kitchen.safety(s);
                }
            }
            return best;
        }
    }

    /** Finds the smallest set that shares a member with each of the sets that were marked. */
    private static final class Hitter {
        private final boolean[] marked = new boolean[STORY_LIMIT];

        private void clear() {
            for (int i = 0; i < STORY_LIMIT; i++) {
                marked[i] = false;
            }
        }

        private void mark(int set) {
            if (set >= 0 && set < STORY_LIMIT) {
                marked[set] = true;
            }
        }

        /** The rank of the least smallest one with members of allowed; NONE: there is none. */
        private int smallest(int size, int allowed) {
            markSupersets(size);
            int best = NONE;
            for (int set = 0; set < size && set < STORY_LIMIT; set++) {
                // A marked set that shares nothing with this one lies within the rest.
                int rest = size - 1 & ~set;
                if ((set & ~allowed) == 0 && !marked[rest]) {
                    best = lesser(best, rank(Integer.bitCount(set), set));
                }
            }
            return best;
        }

        private void markSupersets(int size) {
            for (int bit = 1; bit < size; bit <<= 1) {
                for (int set = 0; set < size && set < STORY_LIMIT; set++) {
                    marked[set] |= marked[set & ~bit];
                }
            }
        }
    }

    /** The naive one, who mends law by law. */
    private static final class Mender {
        private final int[] changes = new int[CLAIM_LIMIT];
        private int length = 0;
        private int story = 0;

        private void mend(Kitchen kitchen) {
            length = 0;
            story = (kitchen.truth & ~kitchen.wanted) | kitchen.wishes;
            int free = ~(kitchen.known | kitchen.wanted);
            for (int i = 0; i < CLAIM_LIMIT; i++) {
                int law = kitchen.firstBroken(story);
                if (law == NONE) {
                    return;
                }
                int open = (kitchen.lawSo[law] | kitchen.lawNot[law]) & free;
                if (open == 0) {
                    return;
                }
                int claim = Integer.numberOfTrailingZeros(open);
                free &= ~(1 << claim);
                story ^= 1 << claim;
                changes[i] = claim;
                length = i + 1;
            }
        }
    }

    /** Evenings that are drawn: what comes out of a story, and when. */
    private static final class Evening {
        private static final long FACTOR = 1103515245L;
        private static final long TERM = 12345L;
        private static final long MODULUS = 2147483648L;

        private long x = 0;
        private int out = 0;
        private int firstDay = NONE;
        private int firstClaim = NONE;

        private void pass(Kitchen kitchen, int seed, int story, int days) {
            x = seed;
            out = 0;
            firstDay = NONE;
            firstClaim = NONE;
            int lies = story ^ kitchen.truth;
            for (int day = 0; day < days && out != lies; day++) {
                for (int c = 0; c < kitchen.claims; c++) {
                    if (((lies & ~out) >> c & 1) == 1 && draw() < kitchen.found[c]) {
                        comeOut(day, c);
                    }
                }
            }
        }

        private int draw() {
            x = (FACTOR * x + TERM) % MODULUS;
            return (int) (x / 65536 % 100);
        }

        private void comeOut(int day, int claim) {
            if (out == 0) {
                firstDay = day;
                firstClaim = claim;
            }
            out |= 1 << claim;
        }
    }

    /** A row of numbers of one width, or nothing. */
    private static final class Slot {
        private final long[] numbers = new long[ROW_LIMIT];
        private int width = NONE;
        private int length = 0;

        private boolean isBare() {
            return width == NONE;
        }

        private void lay(int itsWidth, int n) {
            width = itsWidth;
            length = n;
            Arrays.fill(numbers, 0L);
        }

        /** Widths 0 to 3 are 1, 2, 4 and 8 bytes. */
        private void put(int i, long v) {
            if (i < 0 || i >= length) {
                return;
            }
            numbers[i] = width == 0 ? (byte) v : width == 1 ? (short) v : width == 2 ? (int) v : v;
        }

        private long numberAt(int i) {
            return i >= 0 && i < length ? numbers[i] : 0;
        }

        /** Whether n numbers from the i-th on are not all in the row. */
        private boolean lacks(int i, int n) {
            return i < 0 || n < 0 || n > length || i > length - n;
        }
    }

    /**
     * Reads a tape into a kitchen. Only the first fault is kept; what is read behind it is
     * not used. The tokens are found ahead, so that reading them needs few calls.
     */
    private static final class Reader {
        private static final int NO_TOKEN = 0;
        private static final int END = 1;
        private static final int WORD = 2;
        private static final int SIGN = 3;
        private static final int BAD = 4;
        /** With the number added. */
        private static final int NUMBER = 5;

        private static final int CANNOT_STAND = 1;
        private static final int OUT_OF_BOUNDS = 2;
        private static final int TOO_MANY = 3;

        /** Above every bound; numbers that are larger count as this one. */
        private static final int LARGEST = 1000;

        private final Tape tape;
        private final Kitchen into;
        /** By place: the token that begins there. */
        private final int[] tokens = new int[TAPE_LIMIT + 1];
        private int at = 0;
        private int fault = 0;
        private int place = NONE;

        private Reader(Tape tape, Kitchen into) {
            this.tape = tape;
            this.into = into;
        }

        private void begin() {
            findTokens();
            into.clear();
            fault = 0;
            place = NONE;
            at = NONE;
            advance();
        }

        private boolean goesOn() {
            return fault == 0 && token() != END;
        }

        private void readLine() {
            if (into.lines == 0) {
                expect(isWord("kitchen"));
            } else if (isWord("claim")) {
                readClaim();
            } else if (isWord("law")) {
                readLaw();
            } else if (isWord("known")) {
                advance();
                into.known |= 1 << readNumber(into.claims - 1, into.known);
            } else if (isWord("wants")) {
                advance();
                int literal = readLiteral(0);
                into.want(literal / 2, literal % 2);
            } else if (isWord("person")) {
                readPerson();
            } else {
                fail(CANNOT_STAND);
            }
            expect(token() == SIGN);
            into.lines++;
        }

        private void readClaim() {
            if (into.claims >= CLAIM_LIMIT) {
                fail(TOO_MANY);
                return;
            }
            advance();
            int is = isWord("so") ? 1 : 0;
            expect(isWord("so") || isWord("not"));
            expect(isWord("cost"));
            int cost = readNumber(COST_LIMIT, 0);
            expect(isWord("found"));
            int found = readNumber(FOUND_LIMIT, 0);
            int owns = NONE;
            if (isWord("owns")) {
                advance();
                owns = readNumber(COST_LIMIT, 0);
            }
            into.addClaim(is, cost, found, owns);
        }

        private void readLaw() {
            if (into.laws >= LAW_LIMIT) {
                fail(TOO_MANY);
                return;
            }
            advance();
            if (isWord("some")) {
                readSome();
            } else if (isWord("if")) {
                readIf();
            } else if (isWord("bars")) {
                readBars();
            } else {
                fail(CANNOT_STAND);
            }
        }

        private void readSome() {
            advance();
            int so = 0;
            int not = 0;
            boolean more = true;
            for (int i = 0; i < LITERAL_LIMIT && more; i++) {
                int literal = readLiteral(0);
                so |= soBit(literal);
                not |= soBit(opposite(literal));
                more = fault == 0 && (token() >= NUMBER || isWord("not"));
            }
            if (more) {
                // A number out of its bounds is the lesser fault at the same place.
                fail(token() >= NUMBER + into.claims ? OUT_OF_BOUNDS : TOO_MANY);
            }
            into.addLaw(so, not);
        }

        private void readIf() {
            advance();
            int first = readLiteral(0);
            expect(isWord("then"));
            int second = readLiteral(1 << first / 2);
            addPair(opposite(first), second);
        }

        private void readBars() {
            advance();
            int first = readLiteral(0);
            int second = readLiteral(1 << first / 2);
            addPair(opposite(first), opposite(second));
        }

        private void addPair(int first, int second) {
            int so = soBit(first) | soBit(second);
            int not = soBit(opposite(first)) | soBit(opposite(second));
            into.addLaw(so, not);
        }

        private void readPerson() {
            if (into.people >= PEOPLE_LIMIT) {
                fail(TOO_MANY);
                return;
            }
            advance();
            expect(isWord("cost"));
            int fee = readNumber(COST_LIMIT, 0);
            expect(isWord("knows"));
            int knows = 1 << readNumber(into.claims - 1, 0);
            for (int i = 0; i < TAPE_LIMIT && fault == 0 && token() >= NUMBER; i++) {
                knows |= 1 << readNumber(into.claims - 1, 0);
            }
            into.addPerson(fee, knows);
        }

        /** A literal: twice the claim, and 1 if it is to be so. */
        private int readLiteral(int barred) {
            int so = 1;
            if (isWord("not")) {
                so = 0;
                advance();
            }
            return 2 * readNumber(into.claims - 1, barred) + so;
        }

        private static int opposite(int literal) {
            return literal ^ 1;
        }

        private static int soBit(int literal) {
            return literal % 2 << literal / 2;
        }

        /** A number up to high, none of the barred ones (bits); 0 with a fault. */
        private int readNumber(int high, int barred) {
            int number = token() - NUMBER;
            if (number < 0) {
                fail(CANNOT_STAND);
                return 0;
            }
            if (number > high || (barred != 0 && (barred >> number & 1) == 1)) {
                fail(OUT_OF_BOUNDS);
                return 0;
            }
            advance();
            return number;
        }

        private void expect(boolean stands) {
            if (stands) {
                advance();
            } else {
                fail(CANNOT_STAND);
            }
        }

        private void fail(int what) {
            if (fault == 0) {
                fault = what;
                place = at;
            }
        }

        private int token() {
            return at >= 0 && at <= tape.length ? tokens[at] : END;
        }

        /** To the next token; the end is the last one. */
        private void advance() {
            int next = at + 1;
            while (next < tape.length && tokens[next] == NO_TOKEN) {
                next++;
            }
            at = next < tape.length ? next : tape.length;
        }

        private boolean isWord(String word) {
            if (token() != WORD) {
                return false;
            }
            for (int i = 0; i < word.length(); i++) {
                if (tape.byteAt(at + i) != word.charAt(i)) {
                    return false;
                }
            }
            return !tape.hasLetter(at + word.length());
        }

        private void findTokens() {
            for (int i = 0; i < tape.length; i++) {
                tokens[i] = tokenFrom(i);
            }
            tokens[tape.length] = END;
        }

        /** A letter behind a letter, and a digit behind a digit, begin nothing. */
        private int tokenFrom(int i) {
            if (tape.hasLetter(i)) {
                return tape.hasLetter(i - 1) ? NO_TOKEN : WORD;
            }
            if (tape.hasDigit(i)) {
                return tape.hasDigit(i - 1) ? NO_TOKEN : NUMBER + numberFrom(i);
            }
            int sign = tape.byteAt(i);
            if (sign == ' ' || sign == '\n') {
                return NO_TOKEN;
            }
            return sign == ';' ? SIGN : BAD;
        }

        private int numberFrom(int start) {
            int number = 0;
            for (int i = start; i < tape.length && tape.hasDigit(i); i++) {
                number = Math.min(LARGEST, 10 * number + tape.byteAt(i) - '0');
            }
            return number;
        }
    }
}
