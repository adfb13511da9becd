/**
 * Vaults whose leases run out: the dead with terms, families with means, vaults with beds; laws and
 * orders in two small languages; questions that are answered on paper; years undone, images gone
 * back to. What each call answers stands in DOC.md, by the number of its promise.
 */
public final class VaultLeases {
    public static final int NONE = -1;
    public static final int NOTHING = -100;

    private static final int WRONG_NUMBER = -1;
    private static final int NO_SUCH = -2;
    private static final int CANNOT_BE = -3;
    private static final int NO_ROOM = -5;
    private static final int WRONG_TEXT = -6;

    private static final int MOST_VAULTS = 5;
    private static final int MOST_BEDS = 3;
    private static final int MOST_FAMILIES = 4;
    private static final int MOST_MEANS = 999;
    private static final int MOST_DEAD = 8;
    private static final int LONGEST_TERM = 99;
    private static final int MOST_WISHES = 9;
    private static final int MOST_SEEN = 8;
    private static final int LAST_SEEN_YEAR = 99;
    private static final int MOST_LAWS = 6;
    private static final int LAST_YEAR = 999;
    private static final int MOST_BYTES = 400;
    private static final int BYTES_OF_A_FEED = 20;
    private static final int MOST_IMAGES = 2;
    private static final int MOST_FEW = 20;
    private static final int MOST_PEOPLE = 99;
    private static final int LARGEST_SEED = 1_000_000;
    private static final int MOST_CENTURIES = 60;
    private static final int NO_BED = 100;
    private static final long CERTAIN = 1_000_000_000_000L;

    private static final int YEAR = 0;
    private static final int DIES = 1;
    private static final int MOOD = 2;
    private static final int[] HIGHEST_TERMS = {LAST_YEAR, 10, 9};

    // What undo() tells, and the kinds of ORDERS.
    private static final int RENEWAL = 0;
    private static final int LODGING = 1;
    private static final int KNOCKING = 2;
    private static final int PASSING = 3;

    // The kinds of a LAW's CLAUSES, and how what the first three tell is bounded.
    private static final int PRICES = 0;
    private static final int LASTS = 1;
    private static final int EARNS = 2;
    private static final int BARS = 3;
    private static final int[] LEAST_TOLD = {1, 1, 0};
    private static final int[] MOST_TOLD = {99, 20, 99};
    private static final int[] TOLD_WITHOUT = {5, 10, 10};

    private final Reader reader = new Reader();
    private final Plans plans = new Plans();
    private final Rooms lodgings = new Rooms();
    private final Draws draws = new Draws();
    private final long[] chances = new long[MOST_FEW];
    private final byte[] tape = new byte[MOST_BYTES];
    private final int[] refusals = new int[5];
    private final Ground[] images = new Ground[MOST_IMAGES];
    private final Trial trial;
    private final Ground paper;
    private Ground ground;
    private History history = new History();
    private int tapeLength = 0;
    private int faultPlace = NONE;
    private int stoppedClause = NONE;
    private int latestDraughts = 0;
    private int latestRefusal = 0;

    public VaultLeases() {
        Sums sums = new Sums();
        Court court = new Court(sums);
        ground = new Ground(court);
        paper = new Ground(court);
        trial = new Trial(sums, court);
    }

    public int vault(int beds) {
        if (beds < 1 || beds > MOST_BEDS) {
            return refused(WRONG_NUMBER);
        }
        if (ground.vaults >= MOST_VAULTS) {
            return refused(NO_ROOM);
        }
        ground.beds[ground.vaults] = beds;
        ground.vaults++;
        history.clear();
        return granted(ground.vaults - 1);
    }

    public int at(int vault, int what) {
        if (!ground.hasVault(vault)) {
            return NONE;
        }
        switch (what) {
            case 0:
                return ground.beds[vault];
            case 1:
                return ground.freeBeds(vault);
            case 2:
                return ground.lyingIn(vault);
            default:
                return NONE;
        }
    }

    public int family(int means) {
        if (means < 0 || means > MOST_MEANS) {
            return refused(WRONG_NUMBER);
        }
        if (ground.families >= MOST_FAMILIES) {
            return refused(NO_ROOM);
        }
        ground.means[ground.families] = means;
        ground.families++;
        history.clear();
        return granted(ground.families - 1);
    }

    public int has(int family, int what) {
        if (!ground.hasFamily(family)) {
            return NONE;
        }
        switch (what) {
            case 0:
                return ground.means[family];
            case 1:
                return ground.earned(family);
            case 2:
                return ground.deadOf(family);
            case 3:
                return ground.bill(family);
            default:
                return NONE;
        }
    }

    public int dead(int family, int vault, int term) {
        int why = ground.whyNotDead(family, vault, term);
        if (why != 0) {
            return refused(why);
        }
        ground.addDead(family, vault, term);
        history.clear();
        return granted(ground.deadCount - 1);
    }

    public int of(int dead, int what) {
        if (!ground.hasDead(dead)) {
            return NOTHING;
        }
        switch (what) {
            case 0:
                return ground.familyOf[dead];
            case 1:
                return ground.vaultOf[dead];
            case 2:
                return ground.termOf[dead];
            case 3:
                return (ground.knocked >> dead) & 1;
            case 4:
                return ground.told(ground.inForce(), PRICES, dead);
            case 5:
                return ground.told(ground.inForce(), LASTS, dead);
            default:
                return NOTHING;
        }
    }

    public int asks(int dead, int vault, int what) {
        if (!ground.hasDead(dead) || !ground.hasVault(vault)) {
            return NONE;
        }
        if (what == 0) {
            return ground.wishOf(dead, vault);
        }
        if (what == 1) {
            return ground.isBarred(dead, vault) ? 1 : 0;
        }
        return NONE;
    }

    public int wish(int dead, int vault, int value) {
        if (value < 0 || value > MOST_WISHES) {
            return refused(WRONG_NUMBER);
        }
        if (!ground.hasDead(dead) || !ground.hasVault(vault)) {
            return refused(NO_SUCH);
        }
        int was = ground.wishOf(dead, vault);
        ground.wishes[dead * MOST_VAULTS + vault] = value;
        return granted(was);
    }

    public int terms(int what, int value) {
        if (what < 0 || what >= HIGHEST_TERMS.length || value < 0 || value > HIGHEST_TERMS[what]) {
            return refused(WRONG_NUMBER);
        }
        int was = ground.terms[what];
        ground.terms[what] = value;
        history.clear();
        return granted(was);
    }

    public int feed(int a, int b, int c, int d, int e) {
        if (tapeLength > MOST_BYTES - BYTES_OF_A_FEED) {
            return NONE;
        }
        putBytes(a);
        putBytes(b);
        putBytes(c);
        putBytes(d);
        putBytes(e);
        return tapeLength;
    }

    public int end(int n) {
        if (n < 0 || n > tapeLength) {
            return NONE;
        }
        tapeLength = n;
        return n;
    }

    public int row() {
        if (tapeLength == 0) {
            return refused(WRONG_TEXT);
        }
        int length = takeTape();
        int came = 0;
        int draughts = 0;
        for (int i = 0; i < length; i += 3) {
            if (i + 2 < length && comes(tape[i] & 255, tape[i + 1] & 255, tape[i + 2] & 255)) {
                came++;
            } else {
                draughts++;
            }
        }
        latestDraughts = draughts;
        history.clear();
        return granted(came);
    }

    public int draughts() {
        return latestDraughts;
    }

    public int law() {
        int length = takeTape();
        if (ground.lawCount >= MOST_LAWS) {
            return refused(NO_ROOM);
        }
        boolean right = reader.readText(tape, length, false);
        faultPlace = reader.fault;
        if (!right) {
            return refused(WRONG_TEXT);
        }
        ground.laws[ground.lawCount] = reader.text.trimmed();
        ground.lawCount++;
        return granted(ground.lawCount - 1);
    }

    public int orders() {
        int length = takeTape();
        stoppedClause = NONE;
        boolean right = reader.readText(tape, length, true);
        faultPlace = reader.fault;
        if (!right) {
            return refused(WRONG_TEXT);
        }
        trial.begin(ground, history);
        stoppedClause = trial.carryOut(reader.text);
        if (stoppedClause != NONE) {
            return refused(CANNOT_BE);
        }
        // All of it could be: what was tried stands now, and what stood is written over next time.
        Ground stood = ground;
        History past = history;
        ground = trial.ground;
        history = trial.history;
        trial.ground = stood;
        trial.history = past;
        return granted(trial.done);
    }

    public int fault() {
        return faultPlace;
    }

    public int stopped() {
        return stoppedClause;
    }

    public int force(int law) {
        if (law != NONE && !ground.hasLaw(law)) {
            return refused(NO_SUCH);
        }
        int was = ground.force;
        ground.force = law;
        return granted(was);
    }

    public int renew(int dead) {
        return answered(act(ground, history, RENEWAL, dead, NONE));
    }

    public int lodge(int dead, int vault) {
        return answered(act(ground, history, LODGING, dead, vault));
    }

    public int knock(int dead) {
        return answered(act(ground, history, KNOCKING, dead, NONE));
    }

    public int pass() {
        return answered(act(ground, history, PASSING, NONE, NONE));
    }

    public int undo() {
        if (history.size == 0) {
            return refused(CANNOT_BE);
        }
        return granted(history.takeBack(ground));
    }

    public int inside(int n) {
        if (n < 0 || n > LONGEST_TERM) {
            return NONE;
        }
        return ground.inAfter(n);
    }

    public int empty() {
        int longest = 0;
        for (int d = 0; d < ground.deadCount; d++) {
            longest = Math.max(longest, ground.termOf[d]);
        }
        return longest;
    }

    public int keep(int family, int n, int what) {
        if (!ground.hasFamily(family) || n < 1 || n > LONGEST_TERM || what < 0 || what > 2) {
            return NONE;
        }
        return plans.kept(ground, family, n, what);
    }

    public int when(int dead, int what) {
        if (!ground.isIn(dead) || what < 0 || what > 1) {
            return NONE;
        }
        return plans.cheapestYear(ground, dead, what);
    }

    public int seen(int n, int out) {
        if (n < 0 || n > LAST_SEEN_YEAR || out < 0 || out > 1) {
            return refused(WRONG_NUMBER);
        }
        if (ground.seenCount >= MOST_SEEN) {
            return refused(NO_ROOM);
        }
        ground.seenYears[ground.seenCount] = n;
        ground.seenOut[ground.seenCount] = out;
        ground.seenCount++;
        return granted(ground.seenCount);
    }

    public int forget() {
        int was = ground.seenCount;
        ground.seenCount = 0;
        return was;
    }

    public int stranger() {
        return ground.strangers();
    }

    public int look(int what) {
        if (what < 0 || what > 1) {
            return NONE;
        }
        return plans.bestLook(ground, what);
    }

    public int rooms(int what) {
        if (what < 0 || what >= 2 + ground.deadCount) {
            return NONE;
        }
        lodgings.plan(ground);
        if (what == 0) {
            return lodgings.lodged;
        }
        return what == 1 ? lodgings.wishes : lodgings.vaultFor[what - 2];
    }

    public int packed(int what) {
        if (what < 0 || what > 1) {
            return NONE;
        }
        return plans.packing(ground, what);
    }

    public int changes(int i) {
        if (i < NONE) {
            return NONE;
        }
        return plans.exchange(ground, i);
    }

    public long few(int k, int n) {
        if (k < 1 || k > MOST_FEW || n < 0 || n > MOST_PEOPLE) {
            return NONE;
        }
        int dies = ground.terms[DIES];
        for (int j = 0; j < k; j++) {
            chances[j] = j == 0 ? CERTAIN : 0;
        }
        for (int person = 0; person < n; person++) {
            for (int j = k - 1; j >= 0; j--) {
                long oneMore = j == 0 ? 0 : chances[j - 1] * dies / 10;
                chances[j] = chances[j] * (10 - dies) / 10 + oneMore;
            }
        }
        long together = 0;
        for (int j = 0; j < k; j++) {
            together += chances[j];
        }
        return together;
    }

    public int compare(int law) {
        if (law != NONE && !ground.hasLaw(law)) {
            return NONE;
        }
        Program by = ground.lawAt(law);
        int together = 0;
        for (int d = 0; d < ground.deadCount; d++) {
            if (ground.isIn(d)) {
                together += ground.told(by, PRICES, d);
            }
        }
        return together;
    }

    public int centuries(int seed, int n) {
        if (seed < 0 || seed > LARGEST_SEED || n < 1 || n > MOST_CENTURIES) {
            return refused(WRONG_NUMBER);
        }
        if (ground.deadCount == 0) {
            return refused(CANNOT_BE);
        }
        paper.copyFrom(ground);
        draws.state = seed;
        int out = 0;
        for (int i = 0; i < n && paper.terms[YEAR] < LAST_YEAR; i++) {
            drawOneAct();
            int before = paper.insideCount();
            paper.passYear();
            out += before - paper.insideCount();
        }
        return granted(out);
    }

    public int drawn(int k, int what) {
        // Ahead of any CENTURIES nobody is on paper.
        if (what == 0) {
            return paper.hasDead(k) ? paper.vaultOf[k] : NOTHING;
        }
        if (what == 1) {
            return paper.hasDead(k) ? paper.termOf[k] : NOTHING;
        }
        if (what == 2) {
            return paper.hasFamily(k) ? paper.means[k] : NOTHING;
        }
        return NOTHING;
    }

    public int image(int k) {
        if (k < 0 || k >= MOST_IMAGES) {
            return refused(WRONG_NUMBER);
        }
        Ground kept = images[k];
        if (kept == null) {
            kept = new Ground(ground.court);
            images[k] = kept;
        }
        kept.copyFrom(ground);
        return granted(0);
    }

    public int back(int k) {
        if (k < 0 || k >= MOST_IMAGES) {
            return refused(WRONG_NUMBER);
        }
        Ground kept = images[k];
        if (kept == null) {
            return refused(NO_SUCH);
        }
        ground.copyFrom(kept);
        history.clear();
        return granted(0);
    }

    public int count(int what) {
        if (what >= 8 && what <= 12) {
            return refusals[what - 8];
        }
        if (what >= 14 && what <= 16) {
            return ground.terms[what - 14];
        }
        switch (what) {
            case 0:
                return ground.vaults;
            case 1:
                return ground.families;
            case 2:
                return ground.deadCount;
            case 3:
                return ground.insideCount();
            case 4:
                return ground.seenCount;
            case 5:
                return ground.lawCount;
            case 6:
                return history.size;
            case 7:
                return tapeLength;
            case 13:
                return ground.force;
            default:
                return NONE;
        }
    }

    public int status() {
        return latestRefusal;
    }

    private int refused(int why) {
        latestRefusal = why;
        // There is no refusal by -4, so those below it stand one place lower.
        int place = why >= CANNOT_BE ? -why - 1 : -why - 2;
        if (place >= 0 && place < refusals.length) {
            refusals[place]++;
        }
        return why;
    }

    private int granted(int answer) {
        latestRefusal = 0;
        return answer;
    }

    private int answered(int told) {
        return told < 0 ? refused(told) : granted(told);
    }

    private void putBytes(int four) {
        for (int shift = 24; shift >= 0; shift -= 8) {
            if (tapeLength < tape.length) {
                tape[tapeLength] = (byte) (four >>> shift);
                tapeLength++;
            }
        }
    }

    private int takeTape() {
        int length = tapeLength;
        tapeLength = 0;
        return length;
    }

    private boolean comes(int family, int vault, int term) {
        if (ground.whyNotDead(family, vault, term) != 0) {
            return false;
        }
        ground.addDead(family, vault, term);
        return true;
    }

    private void drawOneAct() {
        int dead = draws.draw(paper.deadCount);
        int vault = draws.draw(paper.vaults);
        switch (draws.draw(3)) {
            case RENEWAL:
                paper.renewFor(dead);
                break;
            case LODGING:
                paper.lodgeIn(dead, vault);
                break;
            default:
                paper.knockBy(dead);
                break;
        }
    }

    /** Does one act and remembers how all was ahead of it; tells what the act tells. */
    private static int act(Ground on, History history, int kind, int dead, int vault) {
        history.prepare(on, kind);
        int told;
        switch (kind) {
            case RENEWAL:
                told = on.renewFor(dead);
                break;
            case LODGING:
                told = on.lodgeIn(dead, vault);
                break;
            case KNOCKING:
                told = on.knockBy(dead);
                break;
            default:
                told = on.passYear();
                break;
        }
        if (told >= 0) {
            history.commit();
        }
        return told;
    }

    /** All that an IMAGE keeps, and what can be done to it. */
    private static final class Ground {
        final Court court;
        final int[] beds = new int[MOST_VAULTS];
        final int[] means = new int[MOST_FAMILIES];
        final int[] familyOf = new int[MOST_DEAD];
        final int[] vaultOf = new int[MOST_DEAD];
        final int[] termOf = new int[MOST_DEAD];
        final int[] wishes = new int[MOST_DEAD * MOST_VAULTS];
        final int[] seenYears = new int[MOST_SEEN];
        final int[] seenOut = new int[MOST_SEEN];
        final int[] terms = {0, 2, 0};
        final Program[] laws = new Program[MOST_LAWS];
        int vaults = 0;
        int families = 0;
        int deadCount = 0;
        int knocked = 0;
        int seenCount = 0;
        int lawCount = 0;
        int force = NONE;

        Ground(Court court) {
            this.court = court;
        }

        void copyFrom(Ground other) {
            System.arraycopy(other.beds, 0, beds, 0, beds.length);
            System.arraycopy(other.means, 0, means, 0, means.length);
            System.arraycopy(other.familyOf, 0, familyOf, 0, familyOf.length);
            System.arraycopy(other.vaultOf, 0, vaultOf, 0, vaultOf.length);
            System.arraycopy(other.termOf, 0, termOf, 0, termOf.length);
            System.arraycopy(other.wishes, 0, wishes, 0, wishes.length);
            System.arraycopy(other.seenYears, 0, seenYears, 0, seenYears.length);
            System.arraycopy(other.seenOut, 0, seenOut, 0, seenOut.length);
            System.arraycopy(other.terms, 0, terms, 0, terms.length);
            for (int i = 0; i < MOST_LAWS; i++) {
                laws[i] = other.laws[i];
            }
            vaults = other.vaults;
            families = other.families;
            deadCount = other.deadCount;
            knocked = other.knocked;
            seenCount = other.seenCount;
            lawCount = other.lawCount;
            force = other.force;
        }

        boolean hasVault(int v) {
            return v >= 0 && v < vaults;
        }

        boolean hasFamily(int f) {
            return f >= 0 && f < families;
        }

        boolean hasDead(int d) {
            return d >= 0 && d < deadCount;
        }

        boolean hasLaw(int law) {
            return law >= 0 && law < lawCount;
        }

        boolean isIn(int d) {
            return hasDead(d) && vaultOf[d] != NONE;
        }

        boolean isOut(int d) {
            return hasDead(d) && vaultOf[d] == NONE;
        }

        Program lawAt(int law) {
            return hasLaw(law) ? laws[law] : null;
        }

        Program inForce() {
            return lawAt(force);
        }

        int wishOf(int d, int v) {
            return hasDead(d) && hasVault(v) ? wishes[d * MOST_VAULTS + v] : 0;
        }

        int lyingIn(int v) {
            int bits = 0;
            for (int d = 0; d < deadCount; d++) {
                if (vaultOf[d] == v) {
                    bits |= 1 << d;
                }
            }
            return bits;
        }

        int freeBeds(int v) {
            return hasVault(v) ? beds[v] - Integer.bitCount(lyingIn(v)) : NONE;
        }

        int insideCount() {
            return deadCount - Integer.bitCount(lyingIn(NONE));
        }

        int inAfter(int years) {
            int bits = 0;
            for (int d = 0; d < deadCount; d++) {
                if (termOf[d] > years) {
                    bits |= 1 << d;
                }
            }
            return bits;
        }

        int strangers() {
            int everybody = (1 << deadCount) - 1;
            int bits = everybody;
            for (int i = 0; i < seenCount; i++) {
                int in = inAfter(seenYears[i]);
                bits &= seenOut[i] == 1 ? everybody & ~in : in;
            }
            return bits;
        }

        int deadOf(int f) {
            int bits = 0;
            for (int d = 0; d < deadCount; d++) {
                if (familyOf[d] == f) {
                    bits |= 1 << d;
                }
            }
            return bits;
        }

        int bill(int f) {
            int together = 0;
            for (int d = 0; d < deadCount; d++) {
                if (familyOf[d] == f && isIn(d)) {
                    together += told(inForce(), PRICES, d);
                }
            }
            return together;
        }

        int told(Program law, int kind, int d) {
            court.askOfDead(this, d, hasDead(d) ? vaultOf[d] : NONE);
            return court.told(law, kind);
        }

        int pricedAfter(int d, int years) {
            court.askOfDead(this, d, hasDead(d) ? vaultOf[d] : NONE);
            court.moveOn(years);
            return court.told(inForce(), PRICES);
        }

        int earned(int f) {
            court.askOfFamily(this, f);
            return court.told(inForce(), EARNS);
        }

        boolean isBarred(int d, int v) {
            court.askOfDead(this, d, v);
            return court.bars(inForce());
        }

        int whyNotDead(int f, int v, int term) {
            if (term < 1 || term > LONGEST_TERM) {
                return WRONG_NUMBER;
            }
            if (!hasFamily(f) || !hasVault(v)) {
                return NO_SUCH;
            }
            if (freeBeds(v) < 1) {
                return CANNOT_BE;
            }
            return deadCount >= MOST_DEAD ? NO_ROOM : 0;
        }

        /** Only behind whyNotDead(), which sees that there is room. */
        void addDead(int f, int v, int term) {
            if (deadCount < MOST_DEAD) {
                familyOf[deadCount] = f;
                vaultOf[deadCount] = v;
                termOf[deadCount] = term;
                deadCount++;
            }
        }

        int renewFor(int d) {
            if (!hasDead(d)) {
                return NO_SUCH;
            }
            int f = familyOf[d];
            if (!isIn(d) || !hasFamily(f)) {
                return CANNOT_BE;
            }
            court.askOfDead(this, d, vaultOf[d]);
            int price = court.told(inForce(), PRICES);
            int years = court.told(inForce(), LASTS);
            if (means[f] < price) {
                return CANNOT_BE;
            }
            means[f] -= price;
            termOf[d] = Math.min(LONGEST_TERM, termOf[d] + years);
            return price;
        }

        int lodgeIn(int d, int v) {
            if (!hasDead(d) || !hasVault(v)) {
                return NO_SUCH;
            }
            if (vaultOf[d] == v || freeBeds(v) < 1) {
                return CANNOT_BE;
            }
            court.askOfDead(this, d, v);
            if (court.bars(inForce())) {
                return CANNOT_BE;
            }
            if (isOut(d)) {
                termOf[d] = 1;
            }
            vaultOf[d] = v;
            return freeBeds(v);
        }

        int knockBy(int d) {
            if (!hasDead(d)) {
                return NO_SUCH;
            }
            if (!isIn(d) || ((knocked >> d) & 1) == 1) {
                return CANNOT_BE;
            }
            knocked |= 1 << d;
            termOf[d] = Math.min(LONGEST_TERM, termOf[d] + 1);
            return termOf[d];
        }

        int passYear() {
            if (terms[YEAR] >= LAST_YEAR) {
                return CANNOT_BE;
            }
            // What a FAMILY EARNS hangs on its own MEANS alone, so one after another will do.
            for (int f = 0; f < families; f++) {
                court.askOfFamily(this, f);
                means[f] = Math.min(MOST_MEANS, means[f] + court.told(inForce(), EARNS));
            }
            for (int d = 0; d < deadCount; d++) {
                if (isIn(d)) {
                    termOf[d]--;
                    vaultOf[d] = termOf[d] == 0 ? NONE : vaultOf[d];
                }
            }
            terms[YEAR]++;
            return terms[YEAR];
        }
    }

    /** The latest acts that can be undone, each as a row of how all was ahead of it. */
    private static final class History {
        static final int KEPT = 16;
        // One more than is kept, so that an act that is refused has not yet written over the oldest.
        static final int SLOTS = KEPT + 1;
        static final int MEANS_AT = 3;
        static final int VAULTS_AT = MEANS_AT + MOST_FAMILIES;
        static final int TERMS_AT = VAULTS_AT + MOST_DEAD;
        static final int SLOT_SIZE = TERMS_AT + MOST_DEAD;

        final int[] rows = new int[SLOTS * SLOT_SIZE];
        int next = 0;
        int size = 0;

        void clear() {
            size = 0;
        }

        void copyFrom(History other) {
            System.arraycopy(other.rows, 0, rows, 0, rows.length);
            next = other.next;
            size = other.size;
        }

        void prepare(Ground g, int kind) {
            int at = next * SLOT_SIZE;
            rows[at] = kind;
            rows[at + 1] = g.terms[YEAR];
            rows[at + 2] = g.knocked;
            System.arraycopy(g.means, 0, rows, at + MEANS_AT, MOST_FAMILIES);
            System.arraycopy(g.vaultOf, 0, rows, at + VAULTS_AT, MOST_DEAD);
            System.arraycopy(g.termOf, 0, rows, at + TERMS_AT, MOST_DEAD);
        }

        void commit() {
            next = (next + 1) % SLOTS;
            size = Math.min(KEPT, size + 1);
        }

        int takeBack(Ground g) {
            next = (next + KEPT) % SLOTS;
            size--;
            int at = next * SLOT_SIZE;
            g.terms[YEAR] = rows[at + 1];
            g.knocked = rows[at + 2];
            System.arraycopy(rows, at + MEANS_AT, g.means, 0, MOST_FAMILIES);
            System.arraycopy(rows, at + VAULTS_AT, g.vaultOf, 0, MOST_DEAD);
            System.arraycopy(rows, at + TERMS_AT, g.termOf, 0, MOST_DEAD);
            return rows[at];
        }
    }

    /** A TEXT that was read: its CLAUSES, and their SUMS and TESTS as steps for a stack. */
    private static final class Program {
        static final int MOST_CLAUSES = 12;

        // A CLAUSE's row: its kind, its TIMES, then where its SUMS and its TEST begin and where it
        // ends: each of these three goes as far as to where the next begins.
        static final int KIND = 0;
        static final int TIMES = 1;
        static final int FIRST_SUM = 2;
        static final int SECOND_SUM = 3;
        static final int TEST = 4;
        static final int END = 5;
        static final int CLAUSE_SIZE = 6;

        // A step: one of these, and sixteen times what it is about.
        static final int NUMBER = 0;
        static final int WORD = 1;
        static final int TURN = 2;
        static final int SKIP_IF_SO = 3;
        static final int SKIP_IF_NOT = 4;
        static final int PLUS = 5;
        static final int MINUS = 6;
        static final int BY = 7;
        static final int PARTED = 8;
        static final int LEFT = 9;
        static final int LESS = 10;
        static final int MORE = 11;
        static final int SAME = 12;

        final int[] steps;
        final int[] clauses;
        int stepCount = 0;
        int clauseCount = 0;

        Program(int mostSteps, int mostClauses) {
            steps = new int[Math.max(0, mostSteps)];
            clauses = new int[Math.max(0, mostClauses * CLAUSE_SIZE)];
        }

        Program trimmed() {
            Program kept = new Program(stepCount, clauseCount);
            System.arraycopy(steps, 0, kept.steps, 0, stepCount);
            System.arraycopy(clauses, 0, kept.clauses, 0, clauseCount * CLAUSE_SIZE);
            kept.stepCount = stepCount;
            kept.clauseCount = clauseCount;
            return kept;
        }

        void clear() {
            stepCount = 0;
            clauseCount = 0;
        }

        int part(int clause, int what) {
            int at = clause * CLAUSE_SIZE + what;
            return at >= 0 && at < clauses.length ? clauses[at] : 0;
        }

        void openClause(int kind) {
            clauseCount++;
            set(KIND, kind);
            set(TIMES, 1);
            set(FIRST_SUM, stepCount);
        }

        /** Sets a part of the latest CLAUSE. */
        void set(int what, int value) {
            int at = (clauseCount - 1) * CLAUSE_SIZE + what;
            if (at >= 0 && at < clauses.length) {
                clauses[at] = value;
            }
        }

        int add(int step, int about) {
            if (stepCount < steps.length) {
                steps[stepCount] = step + 16 * about;
                stepCount++;
            }
            return stepCount - 1;
        }

        /** A skip leads to behind the latest step. */
        void aim(int skip) {
            if (skip >= 0 && skip < stepCount) {
                steps[skip] = (steps[skip] & 15) + 16 * stepCount;
            }
        }
    }

    /** Works out SUMS and TESTS. */
    private static final class Sums {
        static final int SO = 1;
        static final int NOT_SO = 0;
        static final int LARGEST = 1_000_000_000;
        // 50 PARTS at most wait at once.
        static final int MOST_WAITING = 64;

        final int[] stack = new int[MOST_WAITING];
        boolean broken = false;

        /** What a part of a CLAUSE tells: one that is not there SO, a BROKEN one NOT_SO. */
        int work(Program text, int clause, int part, int[] words) {
            int from = Math.max(0, text.part(clause, part));
            int to = Math.min(text.stepCount, text.part(clause, part + 1));
            int waiting = 0;
            int next = from;
            broken = false;
            for (int i = from; i < to && !broken; i++) {
                if (i < next) {
                    continue;
                }
                int step = text.steps[i] & 15;
                int about = text.steps[i] >> 4;
                if (waiting < needed(step) || waiting >= stack.length) {
                    broken = true;
                } else if (step == Program.NUMBER) {
                    stack[waiting] = about;
                    waiting++;
                } else if (step == Program.WORD) {
                    stack[waiting] = about >= 0 && about < words.length ? words[about] : NONE;
                    waiting++;
                } else if (step == Program.TURN) {
                    stack[waiting - 1] = stack[waiting - 1] == SO ? NOT_SO : SO;
                } else if (step > Program.SKIP_IF_NOT) {
                    waiting--;
                    stack[waiting - 1] = joined(step, stack[waiting - 1], stack[waiting]);
                } else if ((stack[waiting - 1] == SO) == (step == Program.SKIP_IF_SO)) {
                    next = about;
                } else {
                    waiting--;
                }
            }
            if (broken) {
                return NOT_SO;
            }
            return waiting == 0 ? SO : stack[waiting - 1];
        }

        private static int needed(int step) {
            if (step <= Program.WORD) {
                return 0;
            }
            return step <= Program.SKIP_IF_NOT ? 1 : 2;
        }

        private int joined(int step, int a, int b) {
            long told = 0;
            switch (step) {
                case Program.PLUS:
                    told = (long) a + b;
                    break;
                case Program.MINUS:
                    told = (long) a - b;
                    break;
                case Program.BY:
                    told = (long) a * b;
                    break;
                case Program.LESS:
                    return a < b ? SO : NOT_SO;
                case Program.MORE:
                    return a > b ? SO : NOT_SO;
                case Program.SAME:
                    return a == b ? SO : NOT_SO;
                default:
                    if (b == 0) {
                        broken = true;
                    } else {
                        told = step == Program.PARTED ? a / b : a % b;
                    }
                    break;
            }
            if (told > LARGEST || told < -LARGEST) {
                broken = true;
            }
            return broken ? 0 : (int) told;
        }
    }

    /** Asks LAWS: first of whom (which sets the words), then what. */
    private static final class Court {
        // The words in the order in which Reader has them, "dead" the first.
        static final int DEAD = 0;
        static final int FAMILY = 1;
        static final int VAULT = 2;
        static final int BEDS = 3;
        static final int FREE = 4;
        static final int MOOD_NOW = 5;
        static final int TERM = 6;
        static final int MEANS = 7;
        static final int YEAR_NOW = 8;
        static final int WORD_COUNT = 9;

        final Sums sums;
        final int[] words = new int[WORD_COUNT];

        Court(Sums sums) {
            this.sums = sums;
        }

        void askOfDead(Ground g, int d, int v) {
            if (g.hasDead(d)) {
                askOfFamily(g, g.familyOf[d]);
                words[DEAD] = d;
                words[TERM] = g.termOf[d];
            }
            if (g.hasVault(v)) {
                words[VAULT] = v;
                words[BEDS] = g.beds[v];
                words[FREE] = g.freeBeds(v);
            }
        }

        void askOfFamily(Ground g, int f) {
            words[DEAD] = NONE;
            words[FAMILY] = f;
            words[VAULT] = NONE;
            words[BEDS] = NONE;
            words[FREE] = NONE;
            words[MOOD_NOW] = g.terms[MOOD];
            words[TERM] = NONE;
            words[MEANS] = g.hasFamily(f) ? g.means[f] : NONE;
            words[YEAR_NOW] = g.terms[YEAR];
        }

        void moveOn(int years) {
            words[TERM] -= years;
            words[YEAR_NOW] += years;
        }

        int told(Program law, int kind) {
            if (kind < PRICES || kind > EARNS) {
                return NONE;
            }
            int clauses = law == null ? 0 : law.clauseCount;
            // The last that HOLDS counts, so what stands ahead of it need not be asked.
            for (int c = clauses - 1; c >= 0; c--) {
                boolean asked = law.part(c, Program.KIND) == kind;
                if (asked && sums.work(law, c, Program.TEST, words) == Sums.SO) {
                    int sum = sums.work(law, c, Program.FIRST_SUM, words);
                    if (!sums.broken) {
                        return Math.max(LEAST_TOLD[kind], Math.min(MOST_TOLD[kind], sum));
                    }
                }
            }
            return TOLD_WITHOUT[kind];
        }

        boolean bars(Program law) {
            int clauses = law == null ? 0 : law.clauseCount;
            for (int c = 0; c < clauses; c++) {
                boolean asked = law.part(c, Program.KIND) == BARS;
                if (asked && sums.work(law, c, Program.TEST, words) == Sums.SO) {
                    return true;
                }
            }
            return false;
        }
    }

    /** Runs ORDERS on a copy, which is put in place of what stood only if all of them can be. */
    private static final class Trial {
        // The words in the order in which Reader has them, then "term" of each, "means" of each.
        static final int YEAR_NOW = 0;
        static final int DONE = 1;
        static final int LATEST = 2;
        static final int INSIDE = 3;
        static final int TERMS_AT = 4;
        static final int MEANS_AT = TERMS_AT + MOST_DEAD;
        static final int WORD_COUNT = MEANS_AT + MOST_FAMILIES;

        final Sums sums;
        final int[] words = new int[WORD_COUNT];
        Ground ground;
        History history = new History();
        int done = 0;
        int latest = NONE;

        Trial(Sums sums, Court court) {
            this.sums = sums;
            ground = new Ground(court);
        }

        void begin(Ground stands, History past) {
            ground.copyFrom(stands);
            history.copyFrom(past);
            done = 0;
            latest = NONE;
        }

        /** Which CLAUSE could not be, or NONE. */
        int carryOut(Program text) {
            for (int c = 0; c < text.clauseCount; c++) {
                for (int i = 0; i < text.part(c, Program.TIMES); i++) {
                    setWords();
                    boolean so = sums.work(text, c, Program.TEST, words) == Sums.SO;
                    if (so && !canDo(text, c)) {
                        return c;
                    }
                }
            }
            return NONE;
        }

        private boolean canDo(Program text, int c) {
            int kind = text.part(c, Program.KIND);
            int dead = sums.work(text, c, Program.FIRST_SUM, words);
            if (sums.broken) {
                return false;
            }
            int vault = sums.work(text, c, Program.SECOND_SUM, words);
            if (sums.broken) {
                return false;
            }
            int told = act(ground, history, kind, dead, vault);
            if (told < 0) {
                return false;
            }
            done++;
            latest = kind == RENEWAL ? told : latest;
            return true;
        }

        private void setWords() {
            words[YEAR_NOW] = ground.terms[YEAR];
            words[DONE] = done;
            words[LATEST] = latest;
            words[INSIDE] = ground.insideCount();
            for (int d = 0; d < MOST_DEAD; d++) {
                words[TERMS_AT + d] = ground.hasDead(d) ? ground.termOf[d] : NONE;
            }
            for (int f = 0; f < MOST_FAMILIES; f++) {
                words[MEANS_AT + f] = ground.hasFamily(f) ? ground.means[f] : NONE;
            }
        }
    }

    /** Reads a TEXT of either language into a Program, or finds its FAULT. */
    private static final class Reader {
        static final int MOST_PARTS = 50;
        static final int MOST_BRACKETS = 8;
        static final int LARGEST_NUMBER = 1000;
        static final int MOST_TIMES = 20;

        // Six signs for each word; its place among them is its number. The heads of LAWS, then those
        // of ORDERS stand in the order of their kinds; the words of SUMS as Court and Trial have them.
        static final String WORDS =
            "priceslasts earns bars  renew lodge knock pass  if    or    and   not   in    times dead  familyvault beds  free  mood  term  means year  done  latestinside";
        static final int WORD_SIZE = 6;
        static final int WORD_COUNT = 26;
        static final int FIRST_OF_LAWS = 0;
        static final int FIRST_OF_ORDERS = 4;
        static final int FIRST_IN_LAWS = 14;
        static final int LAST_IN_LAWS = 22;
        static final int FIRST_IN_ORDERS = 22;
        static final int LAST_IN_ORDERS = 25;

        // What a TOKEN means: a NUMBER itself, or one of these and what it is.
        static final int WORD = 2000;
        static final int SIGN = 3000;
        static final int TEXT_ENDS = 4000;
        static final int NEVER = -1;
        static final int IF = WORD + 8;
        static final int OR = WORD + 9;
        static final int AND = WORD + 10;
        static final int NOT = WORD + 11;
        static final int IN = WORD + 12;
        static final int TIMES = WORD + 13;
        static final int TERM = WORD + 20;
        static final int MEANS = WORD + 21;

        static final int BLANK = 0;
        static final int LETTER = 1;
        static final int DIGIT = 2;
        static final int OTHER = 3;

        final Program text = new Program(MOST_BYTES, Program.MOST_CLAUSES);
        final int[] places = new int[MOST_BYTES + 1];
        final int[] meanings = new int[MOST_BYTES + 1];
        int tokens = 0;
        int at = 0;
        int now = TEXT_ENDS;
        int fault = NONE;
        int parts = 0;
        int brackets = 0;
        boolean inOrders = false;

        boolean readText(byte[] tape, int length, boolean orders) {
            split(tape, Math.max(0, Math.min(length, tape.length)));
            inOrders = orders;
            at = 0;
            now = meanings[0];
            fault = NONE;
            parts = 0;
            brackets = 0;
            text.clear();
            boolean more = true;
            for (int c = 0; c < Program.MOST_CLAUSES && more; c++) {
                clause();
                more = now != TEXT_ENDS;
                if (more) {
                    take(SIGN + ';');
                }
            }
            if (more) {
                // No CLAUSE more may begin here, whatever stands here.
                take(NEVER);
            }
            return fault == NONE;
        }

        private void split(byte[] tape, int length) {
            tokens = 0;
            int before = BLANK;
            for (int i = 0; i < length; i++) {
                int sign = tape[i] & 255;
                int sort = sortOf(sign);
                if (sort != BLANK && (sort == OTHER || sort != before)) {
                    places[tokens] = i;
                    meanings[tokens] = sort == LETTER ? WORD + wordAt(tape, i, length) : SIGN + sign;
                    if (sort == DIGIT) {
                        meanings[tokens] = 0;
                    }
                    tokens++;
                }
                if (sort == DIGIT && tokens > 0) {
                    int sofar = meanings[tokens - 1] * 10 + sign - '0';
                    meanings[tokens - 1] = Math.min(LARGEST_NUMBER + 1, sofar);
                }
                before = sort;
            }
            places[tokens] = length;
            meanings[tokens] = TEXT_ENDS;
        }

        private static int sortOf(int sign) {
            if (sign == ' ') {
                return BLANK;
            }
            if (sign >= 'a' && sign <= 'z') {
                return LETTER;
            }
            return sign >= '0' && sign <= '9' ? DIGIT : OTHER;
        }

        /** Which word begins there; WORD_COUNT, if none. */
        private static int wordAt(byte[] tape, int place, int length) {
            for (int w = 0; w < WORD_COUNT; w++) {
                if (spells(w, tape, place, length)) {
                    return w;
                }
            }
            return WORD_COUNT;
        }

        private static boolean spells(int w, byte[] tape, int place, int length) {
            for (int k = 0; k <= WORD_SIZE; k++) {
                int sign = place + k < length ? tape[place + k] & 255 : ' ';
                char due = k < WORD_SIZE ? WORDS.charAt(w * WORD_SIZE + k) : ' ';
                if (due == ' ') {
                    return sortOf(sign) != LETTER;
                }
                if (sign != due) {
                    return false;
                }
            }
            return false;
        }

        /**
         * Goes on behind the TOKEN that is due; if another stands there, that is the FAULT, and
         * nothing but the end is seen from then on, so that all that is being read comes to its end.
         */
        private void take(int due) {
            if (now != due && fault == NONE) {
                fault = places[at];
            }
            at = fault == NONE ? Math.min(at + 1, tokens) : tokens;
            now = meanings[at];
        }

        private void clause() {
            int kind = now - WORD - (inOrders ? FIRST_OF_ORDERS : FIRST_OF_LAWS);
            if (kind < 0 || kind > 3) {
                take(NEVER);
                return;
            }
            take(now);
            text.openClause(kind);
            if (kind != (inOrders ? PASSING : BARS)) {
                sum(0);
            }
            text.set(Program.SECOND_SUM, text.stepCount);
            if (inOrders && kind == LODGING) {
                take(IN);
                sum(0);
            }
            text.set(Program.TEST, text.stepCount);
            if (inOrders && now == TIMES) {
                take(TIMES);
                text.set(Program.TIMES, now);
                take(now >= 1 && now <= MOST_TIMES ? now : NEVER);
            }
            if (now == IF) {
                take(IF);
                test(0);
            }
            text.set(Program.END, text.stepCount);
        }

        /** Level 0: what "or" joins, 1: what "and" joins, 2: a PLAIN. */
        private void test(int level) {
            if (level > 1) {
                plain();
                return;
            }
            test(level + 1);
            int joint = level == 0 ? OR : AND;
            for (int i = 0; i < MOST_BYTES && now == joint; i++) {
                take(joint);
                int skip = text.add(level == 0 ? Program.SKIP_IF_SO : Program.SKIP_IF_NOT, 0);
                test(level + 1);
                text.aim(skip);
            }
        }

        private void plain() {
            boolean turned = false;
            for (int i = 0; i < MOST_BYTES && now == NOT; i++) {
                take(NOT);
                turned = !turned;
            }
            if (now == SIGN + '(' && brackets < MOST_BRACKETS) {
                brackets++;
                take(now);
                test(0);
                take(SIGN + ')');
                brackets--;
            } else {
                sum(0);
                int step = stepOf(now);
                take(step >= Program.LESS ? now : NEVER);
                sum(0);
                text.add(step, 0);
            }
            if (turned) {
                text.add(Program.TURN, 0);
            }
        }

        /** Level 0: what "+", "-" join, 1: what "*", "/", "%" join, 2: a PART. */
        private void sum(int level) {
            if (level > 1) {
                part();
                return;
            }
            sum(level + 1);
            int first = level == 0 ? Program.PLUS : Program.BY;
            int last = level == 0 ? Program.MINUS : Program.LEFT;
            for (int i = 0; i < MOST_BYTES && stepOf(now) >= first && stepOf(now) <= last; i++) {
                int step = stepOf(now);
                take(now);
                sum(level + 1);
                text.add(step, 0);
            }
        }

        private void part() {
            int word = now - WORD;
            int first = inOrders ? FIRST_IN_ORDERS : FIRST_IN_LAWS;
            int last = inOrders ? LAST_IN_ORDERS : LAST_IN_LAWS;
            if (now == SIGN + '[' && brackets < MOST_BRACKETS) {
                brackets++;
                take(now);
                sum(0);
                take(SIGN + ']');
                brackets--;
                return;
            }
            if (parts >= MOST_PARTS) {
                take(NEVER);
                return;
            }
            parts++;
            if (now <= LARGEST_NUMBER) {
                text.add(Program.NUMBER, now);
                take(now);
            } else if (word >= first && word <= last) {
                text.add(Program.WORD, word - first);
                take(now);
            } else if (inOrders && now == TERM) {
                take(TERM);
                text.add(Program.WORD, Trial.TERMS_AT + now);
                take(now < MOST_DEAD ? now : NEVER);
            } else if (inOrders && now == MEANS) {
                take(MEANS);
                text.add(Program.WORD, Trial.MEANS_AT + now);
                take(now < MOST_FAMILIES ? now : NEVER);
            } else {
                take(NEVER);
            }
        }

        private static int stepOf(int meaning) {
            switch (meaning - SIGN) {
                case '+':
                    return Program.PLUS;
                case '-':
                    return Program.MINUS;
                case '*':
                    return Program.BY;
                case '/':
                    return Program.PARTED;
                case '%':
                    return Program.LEFT;
                case '<':
                    return Program.LESS;
                case '>':
                    return Program.MORE;
                case '=':
                    return Program.SAME;
                default:
                    return NONE;
            }
        }
    }

    /** Questions that are answered on paper, but for beds. */
    private static final class Plans {
        final int[] costs = new int[MOST_DEAD];
        final int[] allowed = new int[MOST_DEAD];

        int kept(Ground g, int f, int years, int what) {
            int own = g.deadOf(f) & g.inAfter(0);
            for (int d = 0; d < g.deadCount; d++) {
                costs[d] = (own >> d & 1) == 1 ? costOf(g, d, years) : 0;
            }
            int best = 0;
            int bestCost = 0;
            for (int bits = 1; bits <= own; bits++) {
                int cost = costOfAll(bits);
                int more = Integer.bitCount(bits) - Integer.bitCount(best);
                boolean better = more > 0 || more == 0 && cost < bestCost;
                if ((bits & ~own) == 0 && cost <= g.means[f] && better) {
                    best = bits;
                    bestCost = cost;
                }
            }
            if (what == 0) {
                return Integer.bitCount(best);
            }
            return what == 1 ? bestCost : best;
        }

        private static int costOf(Ground g, int d, int years) {
            int missing = Math.max(0, years - g.termOf[d]);
            int lasts = Math.max(1, g.told(g.inForce(), LASTS, d));
            return (missing + lasts - 1) / lasts * g.told(g.inForce(), PRICES, d);
        }

        private int costOfAll(int bits) {
            int together = 0;
            for (int d = 0; d < MOST_DEAD; d++) {
                together += (bits >> d & 1) * costs[d];
            }
            return together;
        }

        int cheapestYear(Ground g, int d, int what) {
            int year = 0;
            int least = g.pricedAfter(d, 0);
            for (int i = 1; i < g.termOf[d]; i++) {
                int price = g.pricedAfter(d, i);
                if (price < least) {
                    year = i;
                    least = price;
                }
            }
            return what == 0 ? year : least;
        }

        int bestLook(Ground g, int what) {
            int strangers = g.strangers();
            if (strangers == 0) {
                return NONE;
            }
            int all = Integer.bitCount(strangers);
            int year = 0;
            int least = all + 1;
            for (int i = 0; i <= LAST_SEEN_YEAR; i++) {
                int in = Integer.bitCount(strangers & g.inAfter(i));
                int more = Math.max(in, all - in);
                if (more < least) {
                    year = i;
                    least = more;
                }
            }
            return what == 0 ? year : least;
        }

        int packing(Ground g, int what) {
            for (int d = 0; d < g.deadCount; d++) {
                allowed[d] = g.isIn(d) ? vaultsOpenTo(g, d) : 0;
            }
            int best = NONE;
            for (int set = 0; set < 1 << g.vaults; set++) {
                boolean fewer = best == NONE || Integer.bitCount(set) < Integer.bitCount(best);
                if (fewer && allCanLie(g, set)) {
                    best = set;
                }
            }
            if (best == NONE) {
                return NONE;
            }
            return what == 0 ? Integer.bitCount(best) : best;
        }

        private static int vaultsOpenTo(Ground g, int d) {
            int bits = 0;
            for (int v = 0; v < g.vaults; v++) {
                if (!g.isBarred(d, v)) {
                    bits |= 1 << v;
                }
            }
            return bits;
        }

        /**
         * By Hall's theorem: all can lie in the set, if of each part of it no more are bound to that
         * part than it has BEDS.
         */
        private boolean allCanLie(Ground g, int set) {
            for (int part = 0; part <= set; part++) {
                if ((part & ~set) == 0 && boundTo(g, set, part) > bedsOf(g, part)) {
                    return false;
                }
            }
            return true;
        }

        private int boundTo(Ground g, int set, int part) {
            int bound = 0;
            for (int d = 0; d < g.deadCount; d++) {
                if (g.isIn(d) && (allowed[d] & set & ~part) == 0) {
                    bound++;
                }
            }
            return bound;
        }

        private static int bedsOf(Ground g, int part) {
            int together = 0;
            for (int v = 0; v < g.vaults; v++) {
                together += (part >> v & 1) * g.beds[v];
            }
            return together;
        }

        /** The i-th two as a number, or how many twos there are (i NONE). */
        int exchange(Ground g, int i) {
            int found = 0;
            for (int low = 0; low < g.deadCount; low++) {
                for (int high = low + 1; high < g.deadCount; high++) {
                    if (wantsBedOf(g, low, high) && wantsBedOf(g, high, low)) {
                        if (found == i) {
                            return 10 * low + high;
                        }
                        found++;
                    }
                }
            }
            return i == NONE ? found : NONE;
        }

        private static boolean wantsBedOf(Ground g, int d, int other) {
            if (!g.isIn(d) || !g.isIn(other) || g.vaultOf[d] == g.vaultOf[other]) {
                return false;
            }
            int there = g.vaultOf[other];
            return g.wishOf(d, there) > g.wishOf(d, g.vaultOf[d]) && !g.isBarred(d, there);
        }
    }

    /**
     * Beds for all who are OUT: the cheapest pairing of them (rows, from 1) with free BEDS and with
     * having none (columns, from 1), by the Hungarian method. A cost has in it, in that weight, how
     * many are LODGED, their WISHES and the row of VAULTS, so the cheapest is what is asked for.
     */
    private static final class Rooms {
        static final int CHOICES = MOST_VAULTS + 1;
        static final int NO_VAULT = MOST_VAULTS;
        static final long A_LODGING = 1L << 28;
        static final long A_WISH = 1L << 21;
        static final long BARRED = 1L << 40;
        static final long FAR = 1L << 50;
        static final int MOST_COLUMNS = MOST_VAULTS * MOST_BEDS + MOST_DEAD;

        final int[] vaultFor = new int[MOST_DEAD];
        final int[] deadOfRow = new int[MOST_DEAD + 1];
        final long[] costs = new long[(MOST_DEAD + 1) * CHOICES];
        final long[] rowWorth = new long[MOST_DEAD + 1];
        final int[] vaultOfColumn = new int[MOST_COLUMNS + 1];
        final int[] rowOfColumn = new int[MOST_COLUMNS + 1];
        final int[] cameFrom = new int[MOST_COLUMNS + 1];
        final long[] columnWorth = new long[MOST_COLUMNS + 1];
        final long[] slack = new long[MOST_COLUMNS + 1];
        final boolean[] reached = new boolean[MOST_COLUMNS + 1];
        int rows = 0;
        int columns = 0;
        int lodged = 0;
        int wishes = 0;

        void plan(Ground g) {
            setRows(g);
            setColumns(g);
            for (int row = 1; row <= rows; row++) {
                pair(row);
            }
            lodged = 0;
            wishes = 0;
            for (int column = 1; column <= columns; column++) {
                int row = rowOfColumn[column];
                int vault = vaultOfColumn[column];
                if (row > 0 && vault != NO_VAULT) {
                    vaultFor[deadOfRow[row]] = vault;
                    lodged++;
                    wishes += g.wishOf(deadOfRow[row], vault);
                }
            }
        }

        private void setRows(Ground g) {
            rows = 0;
            for (int d = 0; d < g.deadCount; d++) {
                vaultFor[d] = NONE;
                if (g.isOut(d)) {
                    vaultFor[d] = NO_BED;
                    rows++;
                    deadOfRow[rows] = d;
                    rowWorth[rows] = 0;
                }
            }
            long place = 1;
            for (int row = rows; row >= 1; row--) {
                setCosts(g, row, place);
                place *= CHOICES;
            }
        }

        /** The place is that of this one's VAULT, if the row of VAULTS is read as a number. */
        private void setCosts(Ground g, int row, long place) {
            int d = deadOfRow[row];
            for (int v = 0; v < g.vaults; v++) {
                long gain = A_LODGING + A_WISH * g.wishOf(d, v);
                costs[row * CHOICES + v] = g.isBarred(d, v) ? BARRED : place * v - gain;
            }
            costs[row * CHOICES + NO_VAULT] = place * NO_VAULT;
        }

        private void setColumns(Ground g) {
            columns = 0;
            for (int v = 0; v < g.vaults; v++) {
                addColumns(v, g.freeBeds(v));
            }
            addColumns(NO_VAULT, rows);
        }

        private void addColumns(int vault, int howMany) {
            for (int i = 0; i < howMany && columns < MOST_COLUMNS; i++) {
                columns++;
                vaultOfColumn[columns] = vault;
                rowOfColumn[columns] = 0;
                columnWorth[columns] = 0;
            }
        }

        private void pair(int row) {
            rowOfColumn[0] = row;
            columnWorth[0] = 0;
            for (int column = 0; column <= columns; column++) {
                slack[column] = FAR;
                reached[column] = false;
            }
            int column = 0;
            for (int i = 0; i <= rows && rowOfColumn[column] != 0; i++) {
                column = reachFrom(column);
            }
            for (int i = 0; i <= rows && column != 0; i++) {
                int from = cameFrom[column];
                rowOfColumn[column] = rowOfColumn[from];
                column = from;
            }
        }

        /** Goes on from the row that has this column now: the nearest column not yet reached. */
        private int reachFrom(int from) {
            reached[from] = true;
            int row = rowOfColumn[from];
            int nearest = 0;
            long least = FAR;
            for (int column = 1; column <= columns; column++) {
                if (!reached[column]) {
                    long cost = costs[row * CHOICES + vaultOfColumn[column]];
                    long over = cost - rowWorth[row] - columnWorth[column];
                    if (over < slack[column]) {
                        slack[column] = over;
                        cameFrom[column] = from;
                    }
                    if (slack[column] < least) {
                        least = slack[column];
                        nearest = column;
                    }
                }
            }
            for (int column = 0; column <= columns; column++) {
                if (reached[column]) {
                    rowWorth[rowOfColumn[column]] += least;
                    columnWorth[column] -= least;
                } else {
                    slack[column] -= least;
                }
            }
            return nearest;
        }
    }

    /** The DRAWS of CENTURIES. */
    private static final class Draws {
        int state = 0;

        int draw(int m) {
            state = (int) ((state * 1103L + 12345) % 1_000_003);
            return m > 0 ? state % m : 0;
        }
    }
}
