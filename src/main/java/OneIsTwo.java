/** When one is two: persons who are copied, joined and ended, and their debts, deeds, weddings and votes. */
public final class OneIsTwo {
    public static final int BAD = -1, FULL = -2, NONE = -3, STATE = -4;

    private static final int NOTHING = -11, OUTSIDE = -12, OTHER_SORT = -13, BELOW_ZERO = -14, BY_ZERO = -15;
    private static final int NOBODY = -9;

    private static final int FIRST = 1, COPY = 2, HALF = 3, JOINED = 4, ASLEEP = 5, ENDED = 6, CLAIM = 7;
    private static final int DEBT = 0, THING = 1;
    private static final int OWES = 0, OWNS = 1, BLAME = 2, VOTE = 3, WED = 4, LEAVE = 5, SLEEP = 6;

    private static final int LAST_DAY = 999, MOST_WORTH = 9999, MOST_COPIES = 4, MOST_DEBTS = 12;
    private static final int LAW_FAULT = -100, TOO_FEW_ROWS = 222;
    private static final int SHORTS = 1, LONGS = 3, BOOLEANS = 4, MISSING = -1;
    /** What a SHELF holds; of a row its sort is added to ROW. */
    private static final int EMPTY = -1, ON_PERSON = 0, ON_CLAIM = 1, ROW = 10;

    private final World now = new World();
    private final World kept = new World();
    private final World trial = new World();
    private final Ledger ledger = new Ledger(now);
    private final Ledger trialLedger = new Ledger(trial);
    private final Sides sides = new Sides(now);
    private final Minds minds = new Minds(now);
    private final byte[] tape = new byte[200];
    private final LawReader reader = new LawReader(tape);
    private final Actor actor = new Actor();
    private final long[][] rows = new long[12][3];
    private final int[][] sheetItems = new int[4][40];
    private final int[] sheetSort = new int[4];
    private final int[] sheetSize = new int[4];
    private final int[] shelfHolds = new int[4];
    private final int[] shelfNumber = new int[4];
    private boolean isKept;
    private int fed;
    private int proved;

    public OneIsTwo() {
        for (int i = 0; i < sheetSort.length; i++) sheetSort[i] = MISSING;
        for (int i = 0; i < shelfHolds.length; i++) shelfHolds[i] = EMPTY;
    }

    // ---- persons

    public int later(int n) {
        if (n < 1 || n > 99) return BAD;
        if (now.day + n > LAST_DAY) return FULL;
        now.day += n;
        return now.day;
    }

    public int born() {
        return now.addFirst();
    }

    public int copied(int from, int kind, int part, int moment, boolean leave) {
        if (!now.isPerson(from) || !isCopyKind(kind)) return BAD;
        if (kind == HALF && (part < 1 || part > 3)) return BAD;
        if (moment < 0 || moment > now.day) return BAD;
        if (!now.isAwake(from)) return STATE;
        return now.addCopy(from, kind, part, moment, leave);
    }

    public int wake(int p) {
        if (!now.isPerson(p)) return BAD;
        if (now.persons[p].kind != ASLEEP) return STATE;
        return now.wakeOne(p);
    }

    public int join(int p, int q) {
        if (!now.isPerson(p) || !now.isPerson(q) || p == q) return BAD;
        if (!now.isAwake(p) || !now.isAwake(q)) return STATE;
        return now.addJoined(p, q);
    }

    public int end(int p) {
        if (!now.isPerson(p)) return BAD;
        if (now.isEnded(p)) return STATE;
        return now.endOne(p);
    }

    public int person(int p, int what) {
        if (!now.isPerson(p)) return BAD;
        Person who = now.persons[p];
        switch (what) {
            case 0: return who.kind;
            case 1: return who.from;
            case 2: return who.other;
            case 3: return who.day;
            case 4: return who.moment;
            case 5: return who.part;
            case 6: return who.into;
            case 7: return who.isVoid ? 1 : 0;
            case 8: return now.rootOf(p);
            default: return BAD;
        }
    }

    public int kin(int p) {
        if (!now.isPerson(p)) return BAD;
        int all = 0;
        for (int q = p; q < now.people; q++) {
            if ((now.forebears(q) >> p & 1) != 0) all |= 1 << q;
        }
        return all;
    }

    public int common(int p, int q) {
        if (!now.isPerson(p) || !now.isPerson(q)) return BAD;
        int both = now.forebears(p) & now.forebears(q);
        for (int r = now.people - 1; r >= 0; r--) {
            if ((both >> r & 1) != 0) return r;
        }
        return NOBODY;
    }

    // ---- the law

    public int feed(long eight, int n) {
        if (n < 1 || n > 8) return BAD;
        if (fed + n > tape.length) return FULL;
        for (int i = 0; i < n; i++) tape[fed + i] = (byte) (eight >>> 8 * i);
        fed += n;
        return fed;
    }

    public int law() {
        reader.open(fed);
        fed = 0;
        for (int i = 0; i <= Law.MOST && !reader.isThrough(); i++) {
            if (!reader.readClause()) return LAW_FAULT - reader.at;
        }
        now.takeLaw(reader.read);
        return now.law.clauses;
    }

    public int says(int key, int p) {
        if (key < OWES || key > SLEEP || !now.isPerson(p)) return BAD;
        return now.saysNow(key, p);
    }

    // ---- claims

    public int claim(int sort, int p, int worth) {
        if (!isClaimSort(sort) || !now.isPerson(p) || worth < 1 || worth > MOST_WORTH) return BAD;
        if (!now.isAwake(p)) return STATE;
        return now.addClaim(sort, p, worth);
    }

    public int claimOf(int claim, int what) {
        if (!now.isClaim(claim)) return BAD;
        Claim told = now.claims[claim];
        switch (what) {
            case 0: return told.sort;
            case 1: return told.whose;
            case 2: return told.worth;
            case 3: return told.day;
            default: return BAD;
        }
    }

    public long share(int p, int claim, int part) {
        if (!now.isPerson(p) || !now.isClaim(claim) || !isPart(part)) return BAD;
        ledger.follow(claim);
        return Ledger.lowest(ledger.has[p], part);
    }

    public long total(int p, int sort, int part) {
        if (!now.isPerson(p) || !isClaimSort(sort) || !isPart(part)) return BAD;
        return Ledger.lowest(ledger.sumOf(p, sort), part);
    }

    // ---- deeds, weddings, votes

    public int deed(int p) {
        if (!now.isPerson(p)) return BAD;
        if (!now.isAwake(p)) return STATE;
        return now.addDeed(p);
    }

    public int remembers(int p, int deed) {
        if (!now.isPerson(p) || !now.isDeed(deed)) return BAD;
        minds.recall();
        return minds.known[p] >> deed & 1;
    }

    public int blame(int deed) {
        if (!now.isDeed(deed)) return BAD;
        return minds.whoAnswers(deed);
    }

    public int wed(int p, int q) {
        if (!now.isPerson(p) || !now.isPerson(q) || p == q) return BAD;
        if (!now.isAwake(p) || !now.isAwake(q)) return STATE;
        if ((sides.across(p) >> q & 1) != 0) return STATE;
        return now.addWedding(p, q);
    }

    public int wedTo(int p) {
        if (!now.isPerson(p)) return BAD;
        return sides.across(p);
    }

    public int votes(int p, int part) {
        if (!now.isPerson(p) || !isPart(part)) return BAD;
        int below = minds.voteBelow(p);
        if (part == 0) return below == 0 ? 0 : 1;
        return below == 0 ? 1 : below;
    }

    public int rooted(int root) {
        if (!now.isPerson(root)) return BAD;
        if (now.persons[root].told != FIRST) return NONE;
        return minds.votesOf(root);
    }

    public int apart(int p, int q) {
        if (!now.isPerson(p) || !now.isPerson(q)) return BAD;
        return minds.leastApart(p, q);
    }

    public int fewest(int what) {
        if (what < 0 || what > 1) return BAD;
        int deeds = minds.fewestDeeds();
        return what == 0 ? Integer.bitCount(deeds) : deeds;
    }

    // ---- what it pays

    public long pays(int p, int what) {
        if (!now.isPerson(p) || what < 0 || what > 1) return BAD;
        if (!now.isAwake(p)) return STATE;
        int best = 0;
        long least = ledger.sumOf(p, DEBT) / Ledger.WHOLE;
        // No sum is below 0, so behind one of 0 there is nothing to look for.
        for (int choice = 1; choice < 4 + now.people && least > 0; choice++) {
            int who = tryChoice(p, choice);
            long sum = who < 0 ? least : trialLedger.sumOf(who, DEBT) / Ledger.WHOLE;
            if (sum < least) {
                best = choice;
                least = sum;
            }
        }
        return what == 0 ? best : least;
    }

    /** Does it on the trial alone: whose debts count then, or below 0 if it can't be. */
    private int tryChoice(int p, int choice) {
        trial.copyFrom(now);
        if (choice == 1) return trial.addCopy(p, COPY, 0, trial.day, true) < 0 ? FULL : p;
        if (choice == 2) return trial.addCopy(p, HALF, 1, trial.day, true) < 0 ? FULL : p;
        if (choice == 3) return trial.endOne(p) < 0 ? FULL : p;
        int q = choice - 4;
        if (q == p || !trial.isPerson(q) || !trial.isAwake(q)) return STATE;
        return trial.addJoined(p, q);
    }

    public long lender(int p, int n, int part) {
        if (!now.isPerson(p) || n < 0 || n > MOST_COPIES || !isPart(part)) return BAD;
        if (!now.isAwake(p)) return STATE;
        trial.copyFrom(now);
        int debt = trial.addClaim(DEBT, p, 1);
        if (debt < 0) return FULL;
        for (int i = 0; i < n; i++) {
            if (trial.addCopy(p, COPY, 0, trial.day, true) < 0) return FULL;
        }
        trialLedger.follow(debt);
        long greatest = 0;
        for (int q = 0; q < trial.people; q++) greatest = Math.max(greatest, trialLedger.has[q]);
        return Ledger.lowest(greatest, part);
    }

    public int seed(int v) {
        int was = now.z;
        now.z = v;
        return was;
    }

    public int call() {
        int awake = now.countAwake();
        if (awake == 0) return NONE;
        now.z = now.z * 1103515245 + 12345;
        int left = (now.z >>> 16) % awake;
        for (int p = 0; p < now.people; p++) {
            if (!now.isAwake(p)) continue;
            if (left == 0) return p;
            left--;
        }
        return NONE;
    }

    // ---- rows

    public int prove(int claim) {
        if (!now.isClaim(claim)) return BAD;
        ledger.follow(claim);
        proved = 0;
        for (int p = 0; p < now.people; p++) {
            if (ledger.has[p] == 0) continue;
            rows[proved][0] = p;
            rows[proved][1] = Ledger.lowest(ledger.has[p], 0);
            rows[proved][2] = Ledger.lowest(ledger.has[p], 1);
            proved++;
        }
        return proved;
    }

    public long row(int i, int what) {
        if (!isRowPlace(i, what)) return NOBODY;
        return rows[i][what];
    }

    public long alterRow(int i, int what, long v) {
        if (!isRowPlace(i, what)) return NOBODY;
        long was = rows[i][what];
        rows[i][what] = v;
        return was;
    }

    public int judge(int claim) {
        if (!now.isClaim(claim)) return BAD;
        ledger.follow(claim);
        int p = ledger.nextSharer(0);
        for (int i = 0; i < proved; i++) {
            if (!isRightRow(i, p)) return i + 1;
            p = ledger.nextSharer(p + 1);
        }
        return p == NOBODY ? 0 : TOO_FEW_ROWS;
    }

    private boolean isRowPlace(int i, int what) {
        return i >= 0 && i < proved && what >= 0 && what <= 2;
    }

    private boolean isRightRow(int i, int p) {
        if (p == NOBODY || rows[i][0] != p) return false;
        return rows[i][1] == Ledger.lowest(ledger.has[p], 0) && rows[i][2] == Ledger.lowest(ledger.has[p], 1);
    }

    // ---- the host

    public int sheet(int sheet, int sort, int n) {
        if (!isSheet(sheet) || sort < MISSING || sort > BOOLEANS) return BAD;
        if (sort != MISSING) {
            if (n > sheetItems[sheet].length) return BAD;
            if (n < 0) return BELOW_ZERO;
            sheetSize[sheet] = n;
            for (int i = 0; i < n; i++) sheetItems[sheet][i] = 0;
        }
        sheetSort[sheet] = sort;
        return 1;
    }

    public int put(int sheet, int i, int v) {
        if (!isSheet(sheet)) return BAD;
        if (sheetSort[sheet] == MISSING) return NOTHING;
        if (i < 0 || i >= sheetSize[sheet]) return OUTSIDE;
        sheetItems[sheet][i] = narrowed(sheetSort[sheet], v);
        return 1;
    }

    public int item(int sheet, int sort, int i) {
        if (!isSheet(sheet) || sort < 0 || sort > BOOLEANS) return BAD;
        if (sheetSort[sheet] == MISSING) return NOTHING;
        if (sheetSort[sheet] != sort) return OTHER_SORT;
        if (i < 0 || i >= sheetSize[sheet]) return OUTSIDE;
        return sheetItems[sheet][i];
    }

    public int debts(int p, int sheet, int i, int n) {
        if (!now.isPerson(p) || !isSheet(sheet) || n < 0 || n > MOST_DEBTS) return BAD;
        if (sheetSort[sheet] == MISSING) return NOTHING;
        if (sheetSort[sheet] != SHORTS) return OTHER_SORT;
        int came = 0;
        for (int k = 0; k < n; k++) {
            if (i < 0 || i >= sheetSize[sheet] - k) return OUTSIDE;
            if (claim(DEBT, p, sheetItems[sheet][i + k]) >= 0) came++;
        }
        return came;
    }

    public int shelf(int shelf, int what, int n) {
        if (!isShelf(shelf)) return BAD;
        switch (what) {
            case 0: return now.isPerson(n) ? lay(shelf, ON_PERSON, n) : BAD;
            case 1: return now.isClaim(n) ? lay(shelf, ON_CLAIM, n) : BAD;
            case 2: return isSheet(n) ? layRow(shelf, n) : BAD;
            case 3: return lay(shelf, EMPTY, 0);
            default: return BAD;
        }
    }

    public int taken(int shelf, int as) {
        if (!isShelf(shelf) || as < 0 || as > CLAIM && as < ROW || as > ROW + BOOLEANS) return BAD;
        int holds = heldOn(shelf);
        if (holds == EMPTY) return NOTHING;
        boolean fits = holds >= ROW ? holds == as : as < ROW && isUnder(kindOn(shelf), as);
        return fits ? shelfNumber[shelf] : OTHER_SORT;
    }

    public int act(int shelf, int act, int x) {
        actor.begin();
        if (!isShelf(shelf) || act < 0 || act > 3) return 0;
        int holds = heldOn(shelf);
        if (holds == EMPTY || holds >= ROW) return 0;
        int n = shelfNumber[shelf];
        int a = holds == ON_PERSON ? now.persons[n].day : now.claims[n].worth;
        return actor.perform(kindOn(shelf), n, a, act, x);
    }

    public int trace(int i) {
        if (i < 0 || i >= actor.ran) return NONE;
        return actor.bodies[i];
    }

    public int many(int what) {
        switch (what) {
            case 0: return now.people;
            case 1: return now.countAwake();
            case 2: return now.happened;
            case 3: return now.claimed;
            case 4: return now.done;
            case 5: return now.wedded;
            case 6: return now.law.clauses;
            case 7: return proved;
            case 8: return fed;
            case 9: return actor.ran;
            case 10: return now.day;
            default: return BAD;
        }
    }

    // ---- kept

    public int keep() {
        kept.copyFrom(now);
        isKept = true;
        return 1;
    }

    public int again() {
        if (!isKept) return NONE;
        now.copyFrom(kept);
        return 1;
    }

    private int lay(int shelf, int holds, int number) {
        shelfHolds[shelf] = holds;
        shelfNumber[shelf] = number;
        return 1;
    }

    /** A row that is held stays when its SHEET becomes another; its sort and size are all that is asked of it. */
    private int layRow(int shelf, int sheet) {
        if (sheetSort[sheet] == MISSING) return lay(shelf, EMPTY, 0);
        return lay(shelf, ROW + sheetSort[sheet], sheetSize[sheet]);
    }

    /** Looked up at each use: again() may have undone what was laid there, and a later one may bear its number. */
    private int heldOn(int shelf) {
        int holds = shelfHolds[shelf];
        if (holds == ON_PERSON && !now.isPerson(shelfNumber[shelf])) return EMPTY;
        if (holds == ON_CLAIM && !now.isClaim(shelfNumber[shelf])) return EMPTY;
        return holds;
    }

    private int kindOn(int shelf) {
        return shelfHolds[shelf] == ON_PERSON ? now.persons[shelfNumber[shelf]].kind : CLAIM;
    }

    private static boolean isUnder(int kind, int as) {
        if (kind == as) return true;
        return as == 0 ? kind != CLAIM : as == COPY && (kind == HALF || kind == ASLEEP);
    }

    private static int narrowed(int sort, int v) {
        switch (sort) {
            case 0: return (byte) v;
            case SHORTS: return (short) v;
            case BOOLEANS: return v != 0 ? 1 : 0;
            default: return v;
        }
    }

    private static boolean isSheet(int sheet) {
        return sheet >= 0 && sheet < 4;
    }

    private static boolean isShelf(int shelf) {
        return shelf >= 0 && shelf < 4;
    }

    private static boolean isPart(int part) {
        return part == 0 || part == 1;
    }

    private static boolean isClaimSort(int sort) {
        return sort == DEBT || sort == THING;
    }

    private static boolean isCopyKind(int kind) {
        return kind == COPY || kind == HALF || kind == ASLEEP;
    }

    private static final class Person {
        /** Above the number of every EVENT. */
        static final int NEVER = 999;
        /** The KIND changes; the one he was told with stays. */
        int kind, told;
        int from, other, day, moment, part, into;
        /** Before which EVENT he was not yet ended. */
        int until;
        boolean leave;
        /** By THE LAW, so they are settled anew with each law. */
        boolean isVoid, rests;

        void begin(int asKind, int onDay) {
            kind = asKind;
            told = asKind;
            from = NOBODY;
            other = NOBODY;
            day = onDay;
            moment = NOBODY;
            part = NOBODY;
            into = NOBODY;
            until = NEVER;
            leave = true;
            isVoid = false;
            rests = false;
        }

        void copyFrom(Person that) {
            kind = that.kind;
            told = that.told;
            from = that.from;
            other = that.other;
            day = that.day;
            moment = that.moment;
            part = that.part;
            into = that.into;
            until = that.until;
            leave = that.leave;
            isVoid = that.isVoid;
            rests = that.rests;
        }
    }

    private static final class Event {
        static final int CAME = 0, COPIED = 1, WOKE = 2, JOINING = 3, ENDING = 4;
        /** Of two that are joined `who` is the one who comes. */
        int sort, who, day;

        void set(int asSort, int ofWhom, int onDay) {
            sort = asSort;
            who = ofWhom;
            day = onDay;
        }
    }

    private static final class Claim {
        int sort, whose, worth, day;
        /** How many EVENTS stand ahead of it. */
        int after;

        void set(int asSort, int ofWhom, int asWorth, int onDay, int behind) {
            sort = asSort;
            whose = ofWhom;
            worth = asWorth;
            day = onDay;
            after = behind;
        }
    }

    private static final class Wedding {
        int one, two, day;
        /** How many EVENTS stand ahead of it. */
        int after;

        void set(int first, int second, int onDay, int behind) {
            one = first;
            two = second;
            day = onDay;
            after = behind;
        }
    }

    /** All that keep() keeps. */
    private static final class World {
        final Person[] persons = new Person[12];
        final Event[] events = new Event[18];
        final Claim[] claims = new Claim[12];
        final Wedding[] weddings = new Wedding[8];
        final int[] deedOf = new int[10];
        final int[] deedDay = new int[10];
        final Law law = new Law();
        final int[] facts = new int[Law.FACTS];
        int day, people, happened, claimed, wedded, done;
        int z = 1;

        World() {
            for (int i = 0; i < persons.length; i++) persons[i] = new Person();
            for (int i = 0; i < events.length; i++) events[i] = new Event();
            for (int i = 0; i < claims.length; i++) claims[i] = new Claim();
            for (int i = 0; i < weddings.length; i++) weddings[i] = new Wedding();
        }

        void copyFrom(World that) {
            day = that.day;
            people = that.people;
            happened = that.happened;
            claimed = that.claimed;
            wedded = that.wedded;
            done = that.done;
            z = that.z;
            for (int i = 0; i < people; i++) persons[i].copyFrom(that.persons[i]);
            for (int i = 0; i < happened; i++) {
                Event from = that.events[i];
                events[i].set(from.sort, from.who, from.day);
            }
            for (int i = 0; i < claimed; i++) {
                Claim from = that.claims[i];
                claims[i].set(from.sort, from.whose, from.worth, from.day, from.after);
            }
            for (int i = 0; i < wedded; i++) {
                Wedding from = that.weddings[i];
                weddings[i].set(from.one, from.two, from.day, from.after);
            }
            System.arraycopy(that.deedOf, 0, deedOf, 0, done);
            System.arraycopy(that.deedDay, 0, deedDay, 0, done);
            law.copyFrom(that.law);
        }

        boolean isPerson(int p) {
            return p >= 0 && p < people;
        }

        boolean isClaim(int claim) {
            return claim >= 0 && claim < claimed;
        }

        boolean isDeed(int deed) {
            return deed >= 0 && deed < done;
        }

        boolean isAwake(int p) {
            return persons[p].kind >= FIRST && persons[p].kind <= JOINED;
        }

        boolean isEnded(int p) {
            return persons[p].kind == ENDED;
        }

        int countAwake() {
            int awake = 0;
            for (int p = 0; p < people; p++) {
                if (isAwake(p)) awake++;
            }
            return awake;
        }

        boolean hasRoomForOne() {
            return people < persons.length && hasRoomForEvent();
        }

        boolean hasRoomForEvent() {
            return happened < events.length;
        }

        int addFirst() {
            if (!hasRoomForOne()) return FULL;
            return come(FIRST, Event.CAME);
        }

        int addCopy(int from, int kind, int part, int moment, boolean leave) {
            if (!hasRoomForOne()) return FULL;
            int p = come(kind, Event.COPIED);
            Person who = persons[p];
            who.from = from;
            who.moment = moment;
            who.part = kind == HALF ? part : 2;
            who.leave = leave;
            settle(p);
            return p;
        }

        int addJoined(int p, int q) {
            if (!hasRoomForOne()) return FULL;
            goAway(p, people);
            goAway(q, people);
            int both = come(JOINED, Event.JOINING);
            persons[both].from = p;
            persons[both].other = q;
            return both;
        }

        int wakeOne(int p) {
            if (!hasRoomForEvent()) return FULL;
            persons[p].kind = COPY;
            tell(Event.WOKE, p);
            return 1;
        }

        int endOne(int p) {
            if (!hasRoomForEvent()) return FULL;
            goAway(p, NOBODY);
            tell(Event.ENDING, p);
            return countAwake();
        }

        private int come(int kind, int sort) {
            int p = people;
            persons[p].begin(kind, day);
            people++;
            tell(sort, p);
            return p;
        }

        private void goAway(int p, int into) {
            persons[p].kind = ENDED;
            persons[p].into = into;
            persons[p].until = happened;
        }

        private void tell(int sort, int who) {
            events[happened].set(sort, who, day);
            happened++;
        }

        int addClaim(int sort, int p, int worth) {
            if (claimed >= claims.length) return FULL;
            claims[claimed].set(sort, p, worth, day, happened);
            claimed++;
            return claimed - 1;
        }

        int addDeed(int p) {
            if (done >= deedOf.length) return FULL;
            deedOf[done] = p;
            deedDay[done] = day;
            done++;
            return done - 1;
        }

        int addWedding(int p, int q) {
            if (wedded >= weddings.length) return FULL;
            weddings[wedded].set(p, q, day, happened);
            wedded++;
            return wedded - 1;
        }

        void takeLaw(Law that) {
            law.copyFrom(that);
            for (int p = 0; p < people; p++) settle(p);
        }

        private void settle(int p) {
            Person who = persons[p];
            if (!isCopyKind(who.told)) return;
            who.isVoid = !who.leave && saysOn(LEAVE, p, who.day, 0, 0) == 1;
            who.rests = who.told == ASLEEP && saysOn(SLEEP, p, who.day, 0, 0) == 0;
        }

        /** On an EVENT of a copy, who comes or wakes: of no other is THE LAW asked. */
        int saysOn(int key, int p, int onDay, int amount, int held) {
            Person who = persons[p];
            facts[0] = onDay;
            facts[1] = p;
            facts[2] = who.day - who.moment;
            facts[3] = who.told;
            facts[4] = amount;
            facts[5] = held;
            return law.valueOf(key, facts);
        }

        int saysNow(int key, int p) {
            facts[0] = day;
            facts[1] = people;
            facts[2] = 0;
            facts[3] = persons[p].kind;
            facts[4] = 0;
            facts[5] = 0;
            return law.valueOf(key, facts);
        }

        /** Whether by this EVENT a copy takes his place beside the one he came FROM in all told up to his MOMENT. */
        boolean isTakingPlace(Event event, int toldOn) {
            if (event.sort != Event.COPIED && event.sort != Event.WOKE) return false;
            Person who = persons[event.who];
            return who.rests == (event.sort == Event.WOKE) && !who.isVoid && who.moment >= toldOn;
        }

        int rootOf(int p) {
            int root = p;
            for (int i = 0; i < people && persons[root].from >= 0; i++) root = persons[root].from;
            return root;
        }

        /** All whom one is OF: they came ahead of him, so one way down the numbers finds all. */
        int forebears(int p) {
            int all = 1 << p;
            for (int q = p; q >= 0; q--) {
                if ((all >> q & 1) == 0) continue;
                if (persons[q].from >= 0) all |= 1 << persons[q].from;
                if (persons[q].other >= 0) all |= 1 << persons[q].other;
            }
            return all;
        }
    }

    /** The CLAUSES of a TEXT; their CONDs stand behind one another in `code`, each with its signs behind its parts. */
    private static final class Law {
        static final int MOST = 10, FACTS = 6;
        /** A number in `code` that isn't below 0 is a comparison: SIGN, VALUE, VALUE, with SIDE as the base. */
        static final int SIDE = 16384, FIRST_FACT = 10000;
        static final int NOT = -1, AND = -2, OR = -3;
        static final String KEYS = "owes owns blame vote wed leave sleep";
        static final String FACT_NAMES = "day made gap kind amount held";

        final int[] keys = new int[MOST];
        final int[] values = new int[MOST];
        final int[] start = new int[MOST + 1];
        final int[] code = new int[200];
        int clauses;

        static String valueNames(int key) {
            switch (key) {
                case OWES:
                case OWNS: return "first copy shared all";
                case BLAME: return "body memory root";
                case VOTE: return "each root share";
                case WED: return "maker copy both none";
                case LEAVE: return "free needed";
                default: return "rests bears";
            }
        }

        void clear() {
            clauses = 0;
            start[0] = 0;
            start[1] = 0;
        }

        /** The COND of the CLAUSE that is being read goes on; start[clauses + 1] is its end so far. */
        void addCode(int op) {
            int end = start[clauses + 1];
            if (end >= code.length) return;
            code[end] = op;
            start[clauses + 1] = end + 1;
        }

        void closeClause(int key, int value) {
            keys[clauses] = key;
            values[clauses] = value;
            clauses++;
            if (clauses < MOST) start[clauses + 1] = start[clauses];
        }

        void copyFrom(Law that) {
            clauses = that.clauses;
            System.arraycopy(that.keys, 0, keys, 0, clauses);
            System.arraycopy(that.values, 0, values, 0, clauses);
            System.arraycopy(that.start, 0, start, 0, clauses + 1);
            System.arraycopy(that.code, 0, code, 0, start[clauses]);
        }

        int valueOf(int key, int[] facts) {
            for (int i = clauses - 1; i >= 0; i--) {
                if (keys[i] == key && holds(i, facts)) return values[i];
            }
            return 0;
        }

        /** What holds so far stands in the bits of `stack`, the latest lowest; three "(" leave it far below 31 bits. */
        private boolean holds(int clause, int[] facts) {
            int stack = 1;
            for (int i = start[clause]; i < start[clause + 1]; i++) {
                int op = code[i];
                int top = stack & 1;
                if (op >= 0) stack = stack << 1 | (compares(op, facts) ? 1 : 0);
                else if (op == NOT) stack ^= 1;
                else if (op == AND) stack = stack >> 1 & (top - 2 | top);
                else stack = stack >> 1 | top;
            }
            return (stack & 1) != 0;
        }

        private static boolean compares(int op, int[] facts) {
            int left = op / SIDE % SIDE;
            int right = op % SIDE;
            if (left >= FIRST_FACT) left = facts[left - FIRST_FACT];
            if (right >= FIRST_FACT) right = facts[right - FIRST_FACT];
            int sign = op / SIDE / SIDE;
            return sign == 0 ? left < right : sign == 1 ? left == right : left > right;
        }
    }

    private static final class LawReader {
        private static final int END = -1, NAME = -2, NUMBER = -3, LONG_NUMBER = -4;
        private static final int DEEPEST = 3;

        final Law read = new Law();
        private final byte[] text;
        private int size;
        /** The latest NAME, NUMBER or other byte stands from `at` to `after`. */
        private int at, after, token, number;

        LawReader(byte[] ofTape) {
            text = ofTape;
        }

        void open(int many) {
            size = many;
            after = 0;
            read.clear();
            next();
        }

        boolean isThrough() {
            return token == END;
        }

        /** False at a FAULT, which `at` tells. */
        boolean readClause() {
            int key = token == NAME ? placeAmong(Law.KEYS) : -1;
            if (key < 0 || read.clauses >= Law.MOST) return false;
            next();
            int value = token == NAME ? placeAmong(Law.valueNames(key)) : -1;
            if (value < 0) return false;
            next();
            if (isWord("if")) {
                next();
                if (!readAnyOf(0)) return false;
            }
            if (token != ';') return false;
            read.closeClause(key, value);
            next();
            return true;
        }

        private boolean readAnyOf(int depth) {
            if (!readAllOf(depth)) return false;
            for (int i = 0; i < size && isWord("or"); i++) {
                next();
                if (!readAllOf(depth)) return false;
                read.addCode(Law.OR);
            }
            return true;
        }

        private boolean readAllOf(int depth) {
            if (!readOne(depth)) return false;
            for (int i = 0; i < size && isWord("and"); i++) {
                next();
                if (!readOne(depth)) return false;
                read.addCode(Law.AND);
            }
            return true;
        }

        private boolean readOne(int depth) {
            boolean isNot = false;
            for (int i = 0; i < size && isWord("not"); i++) {
                isNot = !isNot;
                next();
            }
            if (token == '(') {
                if (depth >= DEEPEST) return false;
                next();
                if (!readAnyOf(depth + 1) || token != ')') return false;
                next();
            } else if (!readComparison()) {
                return false;
            }
            if (isNot) read.addCode(Law.NOT);
            return true;
        }

        private boolean readComparison() {
            int left = operand();
            if (left < 0) return false;
            next();
            int sign = token - '<';
            if (sign < 0 || sign > 2) return false;
            next();
            int right = operand();
            if (right < 0) return false;
            next();
            read.addCode((sign * Law.SIDE + left) * Law.SIDE + right);
            return true;
        }

        private int operand() {
            if (token == NUMBER) return number;
            int fact = token == NAME ? placeAmong(Law.FACT_NAMES) : -1;
            return fact < 0 ? -1 : Law.FIRST_FACT + fact;
        }

        private void next() {
            at = after;
            while (at < size && text[at] == ' ') at++;
            after = at;
            token = END;
            if (at >= size) return;
            if (isLetter(text[at])) {
                token = NAME;
                while (after < size && isLetter(text[after])) after++;
            } else if (isDigit(text[at])) {
                number = 0;
                for (; after < size && isDigit(text[after]); after++) {
                    if (after - at < 4) number = number * 10 + text[after] - '0';
                }
                token = after - at > 4 ? LONG_NUMBER : NUMBER;
            } else {
                token = text[at] & 255;
                after++;
            }
        }

        private boolean isWord(String word) {
            return token == NAME && placeAmong(word) == 0;
        }

        /** Which of the words, parted by blanks, the latest NAME is; -1: none. */
        private int placeAmong(String words) {
            int place = 0;
            int fits = 0;
            for (int i = 0; i < words.length(); i++) {
                char letter = words.charAt(i);
                if (letter == ' ') {
                    if (fits == after - at) return place;
                    place++;
                    fits = 0;
                } else {
                    fits = fits >= 0 && at + fits < after && text[at + fits] == letter ? fits + 1 : -1;
                }
            }
            return fits == after - at ? place : -1;
        }

        private static boolean isLetter(int sign) {
            return sign >= 'a' && sign <= 'z';
        }

        private static boolean isDigit(int sign) {
            return sign >= '0' && sign <= '9';
        }
    }

    /** Follows the SHARES of a CLAIM through the EVENTS behind it. */
    private static final class Ledger {
        /** 11 copies at most can come, and each parts a SHARE by 4 once at most: in 4^-11ths all are whole. */
        static final int BITS = 22;
        static final long WHOLE = 1L << BITS;

        final World world;
        final long[] has = new long[12];

        Ledger(World ofWorld) {
            world = ofWorld;
        }

        static long lowest(long above, int part) {
            long top = above;
            long below = WHOLE;
            for (int i = 0; i < BITS && top % 2 == 0; i++) {
                top /= 2;
                below /= 2;
            }
            return part == 0 ? top : below;
        }

        long sumOf(int p, int sort) {
            long sum = 0;
            for (int c = 0; c < world.claimed; c++) {
                if (world.claims[c].sort != sort) continue;
                follow(c);
                sum += world.claims[c].worth * has[p];
            }
            return sum;
        }

        int nextSharer(int from) {
            for (int p = from; p < world.people; p++) {
                if (has[p] != 0) return p;
            }
            return NOBODY;
        }

        void follow(int c) {
            Claim claim = world.claims[c];
            for (int p = 0; p < has.length; p++) has[p] = 0;
            has[claim.whose] = WHOLE;
            for (int e = claim.after; e < world.happened; e++) {
                Event event = world.events[e];
                Person who = world.persons[event.who];
                if (event.sort == Event.JOINING) {
                    give(who.from, event.who);
                    give(who.other, event.who);
                } else if (event.sort == Event.ENDING) {
                    if (isCopyKind(who.told) && world.persons[who.from].until > e) give(event.who, who.from);
                    has[event.who] = 0;
                } else if (world.isTakingPlace(event, claim.day)) {
                    part(c, event);
                }
            }
        }

        private void give(int from, int to) {
            has[to] = Math.min(WHOLE, has[to] + has[from]);
            has[from] = 0;
        }

        private void part(int c, Event event) {
            Claim claim = world.claims[c];
            Person who = world.persons[event.who];
            int key = claim.sort == DEBT ? OWES : OWNS;
            switch (world.saysOn(key, event.who, event.day, claim.worth, c)) {
                case 1:
                    give(who.from, event.who);
                    break;
                case 2:
                    has[event.who] = has[who.from] * who.part / 4;
                    has[who.from] -= has[event.who];
                    break;
                case 3:
                    has[event.who] = has[who.from];
                    break;
                default:
                    break;
            }
        }
    }

    /** Follows the two sides of a WEDDING through the EVENTS behind it. */
    private static final class Sides {
        final World world;

        Sides(World ofWorld) {
            world = ofWorld;
        }

        /** All WED to one. */
        int across(int p) {
            int all = 0;
            for (int w = 0; w < world.wedded; w++) {
                Wedding wedding = world.weddings[w];
                int one = follow(wedding, wedding.one);
                int two = follow(wedding, wedding.two);
                if ((one >> p & 1) != 0) all |= two;
                if ((two >> p & 1) != 0) all |= one;
            }
            return all & ~(1 << p);
        }

        private int follow(Wedding wedding, int p) {
            int side = 1 << p;
            for (int e = wedding.after; e < world.happened; e++) {
                Event event = world.events[e];
                Person who = world.persons[event.who];
                if (event.sort == Event.JOINING) {
                    int both = 1 << who.from | 1 << who.other;
                    if ((side & both) != 0) side = side & ~both | 1 << event.who;
                } else if (event.sort == Event.ENDING) {
                    side &= ~(1 << event.who);
                } else if (world.isTakingPlace(event, wedding.day) && (side >> who.from & 1) != 0) {
                    side = withCopy(side, event);
                }
            }
            return side;
        }

        private int withCopy(int side, Event event) {
            int from = 1 << world.persons[event.who].from;
            int copy = 1 << event.who;
            switch (world.saysOn(WED, event.who, event.day, 0, 0)) {
                case 1: return side & ~from | copy;
                case 2: return side | copy;
                case 3: return side & ~from;
                default: return side;
            }
        }
    }

    /** Who REMEMBERS what, who answers, who votes. */
    private static final class Minds {
        private static final int EVEN = 0x155;

        final World world;
        /** By PERSON: the DEEDS that he REMEMBERS, as bits. */
        final int[] known = new int[12];
        /** Of each two who don't REMEMBER the same: the DEEDS that just one of them does. */
        private final int[] between = new int[66];

        Minds(World ofWorld) {
            world = ofWorld;
        }

        /** In the order of numbers, for whom one came FROM has a lower one. */
        void recall() {
            for (int p = 0; p < world.people; p++) {
                Person who = world.persons[p];
                int deeds = 0;
                if (who.told == JOINED) deeds = known[who.from] | known[who.other];
                if (isCopyKind(who.told)) deeds = known[who.from] & toldUpTo(who.moment);
                if (who.told == HALF) deeds &= EVEN;
                for (int d = 0; d < world.done; d++) {
                    if (world.deedOf[d] == p) deeds |= 1 << d;
                }
                known[p] = deeds;
            }
        }

        private int toldUpTo(int day) {
            int deeds = 0;
            for (int d = 0; d < world.done; d++) {
                if (world.deedDay[d] <= day) deeds |= 1 << d;
            }
            return deeds;
        }

        int leastApart(int p, int q) {
            recall();
            for (int d = 0; d < world.done; d++) {
                if (((known[p] ^ known[q]) >> d & 1) != 0) return d;
            }
            return NOBODY;
        }

        int fewestDeeds() {
            recall();
            int pairs = findApart();
            int all = (1 << world.done) - 1;
            int best = all;
            int few = world.done;
            for (int deeds = 0; deeds < all; deeds++) {
                int many = Integer.bitCount(deeds);
                if (many >= few || !tellApart(deeds, pairs)) continue;
                best = deeds;
                few = many;
            }
            return best;
        }

        private int findApart() {
            int pairs = 0;
            for (int p = 0; p < world.people; p++) {
                for (int q = 0; q < p; q++) {
                    if (world.isEnded(p) || world.isEnded(q) || known[p] == known[q]) continue;
                    if (pairs >= between.length) continue;
                    between[pairs] = known[p] ^ known[q];
                    pairs++;
                }
            }
            return pairs;
        }

        private boolean tellApart(int deeds, int pairs) {
            for (int i = 0; i < pairs; i++) {
                if ((between[i] & deeds) == 0) return false;
            }
            return true;
        }

        int whoAnswers(int deed) {
            int doer = world.deedOf[deed];
            switch (world.saysNow(BLAME, doer)) {
                case 1: return allWhoKnow(deed);
                case 2: return unlessEnded(world.rootOf(doer));
                default: return unlessEnded(bodyOf(doer));
            }
        }

        private int bodyOf(int doer) {
            int body = doer;
            for (int i = 0; i < world.people && world.persons[body].into >= 0; i++) body = world.persons[body].into;
            return body;
        }

        private int unlessEnded(int p) {
            return world.isEnded(p) ? 0 : 1 << p;
        }

        private int allWhoKnow(int deed) {
            recall();
            int all = 0;
            for (int p = 0; p < world.people; p++) {
                if (isCounted(p) && (known[p] >> deed & 1) != 0) all |= 1 << p;
            }
            return all;
        }

        private boolean isCounted(int p) {
            return world.isAwake(p) && !world.persons[p].isVoid;
        }

        /** By how many his VOTE is parted; 0: he has none. */
        int voteBelow(int p) {
            if (!isCounted(p)) return 0;
            int root = world.rootOf(p);
            int many = 0;
            boolean isLeast = true;
            for (int q = 0; q < world.people; q++) {
                if (!isCounted(q) || world.rootOf(q) != root) continue;
                many++;
                if (q < p) isLeast = false;
            }
            switch (world.saysNow(VOTE, p)) {
                case 1: return isLeast ? 1 : 0;
                case 2: return many;
                default: return 1;
            }
        }

        /** All with one ROOT share by the same number, so what they have beside whole VOTES is so many by that. */
        int votesOf(int root) {
            int whole = 0;
            int parted = 0;
            int by = 1;
            for (int p = 0; p < world.people; p++) {
                int below = world.rootOf(p) == root ? voteBelow(p) : 0;
                if (below == 1) whole++;
                if (below > 1) {
                    parted++;
                    by = below;
                }
            }
            return whole + parted / by;
        }
    }

    /** Runs the bodies of a thing's ACTS and keeps THE TRACE. */
    private static final class Actor {
        private static final int DEEPEST = 20;
        /** The body of each ACT that a thing of a KIND (0 to 7) runs. */
        private static final int[] BEARS = {10, 10, 30, 40, 10, 30, 10, 80};
        private static final int[] KNOWS = {11, 20, 11, 11, 60, 51, 11, 81};
        private static final int[] SHARES = {12, 12, 12, 12, 12, 50, 12, 82};
        private static final int[] TELLS = {13, 13, 31, 31, 13, 31, 70, 83};

        final int[] bodies = new int[30];
        int ran;
        private int kind, n, a;
        private boolean isByZero;

        void begin() {
            ran = 0;
            isByZero = false;
        }

        int perform(int ofKind, int number, int age, int act, int x) {
            kind = ofKind;
            n = number;
            a = age;
            int body = act == 0 ? BEARS[kind] : act == 1 ? KNOWS[kind] : act == 2 ? SHARES[kind] : TELLS[kind];
            int answer = run(body, x, 0);
            return isByZero ? BY_ZERO : answer;
        }

        /** A body that is named runs as it stands (super); an ACT is looked up by KIND. */
        private int run(int body, int x, int depth) {
            if (depth > DEEPEST) return 0;
            if (ran < bodies.length) {
                bodies[ran] = body;
                ran++;
            }
            int down = depth + 1;
            switch (body) {
                case 10: return x + a;
                case 11: return run(BEARS[kind], x, down) * 2;
                case 12: return parted(x);
                case 13: return run(KNOWS[kind], x, down) ^ n;
                case 20: return run(11, x, down) - 4;
                case 30: return run(10, x, down) * 3;
                case 31: return run(13, x, down) + run(SHARES[kind], n, down);
                case 40: return run(30, x, down) - n;
                case 50: return run(12, x + 1, down);
                case 51: return 0 - run(11, x, down);
                case 60: return run(11, x, down) ^ a;
                case 70: return run(13, x, down) * 2;
                case 80: return a - x;
                case 81: return run(BEARS[kind], x, down) * n;
                case 82: return x | a;
                case 83: return run(KNOWS[kind], x, down) - run(SHARES[kind], n, down);
                default: return 0;
            }
        }

        /** In every KIND nothing runs behind this body, so it is enough to mark that it was parted by 0. */
        private int parted(int x) {
            if (a == n) {
                isByZero = true;
                return 0;
            }
            return x / (a - n);
        }
    }
}
